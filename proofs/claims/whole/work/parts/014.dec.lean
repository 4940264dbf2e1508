theorem dL_law_1686 : decode cL_law 1686 = .ok (.iadd, 1) := by decide +kernel
theorem dL_law_1687 : decode cL_law 1687 = .ok (.iaload, 1) := by decide +kernel
theorem dL_law_1688 : decode cL_law 1688 = .ok (.invokevirtual 244, 3) := by decide +kernel
theorem dL_law_1691 : decode cL_law 1691 = .ok (.istore 6, 2) := by decide +kernel
theorem dL_law_1693 : decode cL_law 1693 = .ok (.aload_n 2, 1) := by decide +kernel
theorem dL_law_1694 : decode cL_law 1694 = .ok (.invokevirtual 160, 3) := by decide +kernel
theorem dL_law_1697 : decode cL_law 1697 = .ok (.iload 5, 2) := by decide +kernel
theorem dL_law_1699 : decode cL_law 1699 = .ok (.if_icmp .eq 5, 3) := by decide +kernel
theorem dL_law_1702 : decode cL_law 1702 = .ok (.iconst 0, 1) := by decide +kernel
theorem dL_law_1703 : decode cL_law 1703 = .ok (.ireturn, 1) := by decide +kernel
theorem dL_law_1704 : decode cL_law 1704 = .ok (.iload 5, 2) := by decide +kernel
theorem dL_law_1706 : decode cL_law 1706 = .ok (.ifCond .ne 15, 3) := by decide +kernel
theorem dL_law_1709 : decode cL_law 1709 = .ok (.aload_n 3, 1) := by decide +kernel
theorem dL_law_1710 : decode cL_law 1710 = .ok (.iconst 0, 1) := by decide +kernel
theorem dL_law_1711 : decode cL_law 1711 = .ok (.laload, 1) := by decide +kernel
theorem dL_law_1712 : decode cL_law 1712 = .ok (.iload 6, 2) := by decide +kernel
theorem dL_law_1714 : decode cL_law 1714 = .ok (.i2l, 1) := by decide +kernel
theorem dL_law_1715 : decode cL_law 1715 = .ok (.lcmp, 1) := by decide +kernel
theorem dL_law_1716 : decode cL_law 1716 = .ok (.ifCond .eq 5, 3) := by decide +kernel
theorem dL_law_1719 : decode cL_law 1719 = .ok (.iconst 0, 1) := by decide +kernel
theorem dL_law_1720 : decode cL_law 1720 = .ok (.ireturn, 1) := by decide +kernel
theorem dL_law_1721 : decode cL_law 1721 = .ok (.goto 1426, 3) := by decide +kernel
theorem dL_law_1724 : decode cL_law 1724 = .ok (.aload_n 1, 1) := by decide +kernel
theorem dL_law_1725 : decode cL_law 1725 = .ok (.aload_n 0, 1) := by decide +kernel
theorem dL_law_1726 : decode cL_law 1726 = .ok (.iload 4, 2) := by decide +kernel
theorem dL_law_1728 : decode cL_law 1728 = .ok (.iconst 1, 1) := by decide +kernel
theorem dL_law_1729 : decode cL_law 1729 = .ok (.iadd, 1) := by decide +kernel
theorem dL_law_1730 : decode cL_law 1730 = .ok (.iaload, 1) := by decide +kernel
theorem dL_law_1731 : decode cL_law 1731 = .ok (.aload_n 3, 1) := by decide +kernel
theorem dL_law_1732 : decode cL_law 1732 = .ok (.invokestatic 245, 3) := by decide +kernel
theorem dL_law_1735 : decode cL_law 1735 = .ok (.istore 5, 2) := by decide +kernel
theorem dL_law_1737 : decode cL_law 1737 = .ok (.aload_n 2, 1) := by decide +kernel
theorem dL_law_1738 : decode cL_law 1738 = .ok (.aload_n 0, 1) := by decide +kernel
theorem dL_law_1739 : decode cL_law 1739 = .ok (.iload 4, 2) := by decide +kernel
theorem dL_law_1741 : decode cL_law 1741 = .ok (.iconst 1, 1) := by decide +kernel
theorem dL_law_1742 : decode cL_law 1742 = .ok (.iadd, 1) := by decide +kernel
theorem dL_law_1743 : decode cL_law 1743 = .ok (.iaload, 1) := by decide +kernel
theorem dL_law_1744 : decode cL_law 1744 = .ok (.invokevirtual 247, 3) := by decide +kernel
theorem dL_law_1747 : decode cL_law 1747 = .ok (.istore 6, 2) := by decide +kernel
theorem dL_law_1749 : decode cL_law 1749 = .ok (.aload_n 2, 1) := by decide +kernel
theorem dL_law_1750 : decode cL_law 1750 = .ok (.invokevirtual 160, 3) := by decide +kernel
theorem dL_law_1753 : decode cL_law 1753 = .ok (.iload 5, 2) := by decide +kernel
theorem dL_law_1755 : decode cL_law 1755 = .ok (.if_icmp .eq 5, 3) := by decide +kernel
theorem dL_law_1758 : decode cL_law 1758 = .ok (.iconst 0, 1) := by decide +kernel
theorem dL_law_1759 : decode cL_law 1759 = .ok (.ireturn, 1) := by decide +kernel
theorem dL_law_1760 : decode cL_law 1760 = .ok (.iload 5, 2) := by decide +kernel
theorem dL_law_1762 : decode cL_law 1762 = .ok (.ifCond .ne 15, 3) := by decide +kernel
theorem dL_law_1765 : decode cL_law 1765 = .ok (.aload_n 3, 1) := by decide +kernel
theorem dL_law_1766 : decode cL_law 1766 = .ok (.iconst 0, 1) := by decide +kernel
theorem dL_law_1767 : decode cL_law 1767 = .ok (.laload, 1) := by decide +kernel
theorem dL_law_1768 : decode cL_law 1768 = .ok (.iload 6, 2) := by decide +kernel
theorem dL_law_1770 : decode cL_law 1770 = .ok (.i2l, 1) := by decide +kernel
theorem dL_law_1771 : decode cL_law 1771 = .ok (.lcmp, 1) := by decide +kernel
theorem dL_law_1772 : decode cL_law 1772 = .ok (.ifCond .eq 5, 3) := by decide +kernel
theorem dL_law_1775 : decode cL_law 1775 = .ok (.iconst 0, 1) := by decide +kernel
theorem dL_law_1776 : decode cL_law 1776 = .ok (.ireturn, 1) := by decide +kernel
theorem dL_law_1777 : decode cL_law 1777 = .ok (.goto 1370, 3) := by decide +kernel
theorem dL_law_1780 : decode cL_law 1780 = .ok (.aload_n 1, 1) := by decide +kernel
theorem dL_law_1781 : decode cL_law 1781 = .ok (.aload_n 0, 1) := by decide +kernel
theorem dL_law_1782 : decode cL_law 1782 = .ok (.iload 4, 2) := by decide +kernel
theorem dL_law_1784 : decode cL_law 1784 = .ok (.iconst 1, 1) := by decide +kernel
theorem dL_law_1785 : decode cL_law 1785 = .ok (.iadd, 1) := by decide +kernel
theorem dL_law_1786 : decode cL_law 1786 = .ok (.iaload, 1) := by decide +kernel
theorem dL_law_1787 : decode cL_law 1787 = .ok (.aload_n 0, 1) := by decide +kernel
theorem dL_law_1788 : decode cL_law 1788 = .ok (.iload 4, 2) := by decide +kernel
theorem dL_law_1790 : decode cL_law 1790 = .ok (.iconst 2, 1) := by decide +kernel
theorem dL_law_1791 : decode cL_law 1791 = .ok (.iadd, 1) := by decide +kernel
theorem dL_law_1792 : decode cL_law 1792 = .ok (.iaload, 1) := by decide +kernel
theorem dL_law_1793 : decode cL_law 1793 = .ok (.aload_n 3, 1) := by decide +kernel
theorem dL_law_1794 : decode cL_law 1794 = .ok (.invokestatic 248, 3) := by decide +kernel
theorem dL_law_1797 : decode cL_law 1797 = .ok (.istore 5, 2) := by decide +kernel
theorem dL_law_1799 : decode cL_law 1799 = .ok (.aload_n 2, 1) := by decide +kernel
theorem dL_law_1800 : decode cL_law 1800 = .ok (.aload_n 0, 1) := by decide +kernel
theorem dL_law_1801 : decode cL_law 1801 = .ok (.iload 4, 2) := by decide +kernel
theorem dL_law_1803 : decode cL_law 1803 = .ok (.iconst 1, 1) := by decide +kernel
theorem dL_law_1804 : decode cL_law 1804 = .ok (.iadd, 1) := by decide +kernel
theorem dL_law_1805 : decode cL_law 1805 = .ok (.iaload, 1) := by decide +kernel
theorem dL_law_1806 : decode cL_law 1806 = .ok (.aload_n 0, 1) := by decide +kernel
theorem dL_law_1807 : decode cL_law 1807 = .ok (.iload 4, 2) := by decide +kernel
theorem dL_law_1809 : decode cL_law 1809 = .ok (.iconst 2, 1) := by decide +kernel
theorem dL_law_1810 : decode cL_law 1810 = .ok (.iadd, 1) := by decide +kernel
theorem dL_law_1811 : decode cL_law 1811 = .ok (.iaload, 1) := by decide +kernel
theorem dL_law_1812 : decode cL_law 1812 = .ok (.invokevirtual 250, 3) := by decide +kernel
theorem dL_law_1815 : decode cL_law 1815 = .ok (.istore 6, 2) := by decide +kernel
theorem dL_law_1817 : decode cL_law 1817 = .ok (.aload_n 2, 1) := by decide +kernel
theorem dL_law_1818 : decode cL_law 1818 = .ok (.invokevirtual 160, 3) := by decide +kernel
theorem dL_law_1821 : decode cL_law 1821 = .ok (.iload 5, 2) := by decide +kernel
theorem dL_law_1823 : decode cL_law 1823 = .ok (.if_icmp .eq 5, 3) := by decide +kernel
theorem dL_law_1826 : decode cL_law 1826 = .ok (.iconst 0, 1) := by decide +kernel
theorem dL_law_1827 : decode cL_law 1827 = .ok (.ireturn, 1) := by decide +kernel
theorem dL_law_1828 : decode cL_law 1828 = .ok (.iload 5, 2) := by decide +kernel
theorem dL_law_1830 : decode cL_law 1830 = .ok (.ifCond .ne 15, 3) := by decide +kernel
theorem dL_law_1833 : decode cL_law 1833 = .ok (.aload_n 3, 1) := by decide +kernel
theorem dL_law_1834 : decode cL_law 1834 = .ok (.iconst 0, 1) := by decide +kernel
theorem dL_law_1835 : decode cL_law 1835 = .ok (.laload, 1) := by decide +kernel
theorem dL_law_1836 : decode cL_law 1836 = .ok (.iload 6, 2) := by decide +kernel
theorem dL_law_1838 : decode cL_law 1838 = .ok (.i2l, 1) := by decide +kernel
theorem dL_law_1839 : decode cL_law 1839 = .ok (.lcmp, 1) := by decide +kernel
theorem dL_law_1840 : decode cL_law 1840 = .ok (.ifCond .eq 5, 3) := by decide +kernel
theorem dL_law_1843 : decode cL_law 1843 = .ok (.iconst 0, 1) := by decide +kernel
theorem dL_law_1844 : decode cL_law 1844 = .ok (.ireturn, 1) := by decide +kernel
theorem dL_law_1845 : decode cL_law 1845 = .ok (.goto 1302, 3) := by decide +kernel
theorem dL_law_1848 : decode cL_law 1848 = .ok (.aload_n 1, 1) := by decide +kernel
theorem dL_law_1849 : decode cL_law 1849 = .ok (.aload_n 0, 1) := by decide +kernel
theorem dL_law_1850 : decode cL_law 1850 = .ok (.iload 4, 2) := by decide +kernel
theorem dL_law_1852 : decode cL_law 1852 = .ok (.iconst 1, 1) := by decide +kernel
theorem dL_law_1853 : decode cL_law 1853 = .ok (.iadd, 1) := by decide +kernel
theorem dL_law_1854 : decode cL_law 1854 = .ok (.iaload, 1) := by decide +kernel
theorem dL_law_1855 : decode cL_law 1855 = .ok (.aload_n 0, 1) := by decide +kernel
theorem dL_law_1856 : decode cL_law 1856 = .ok (.iload 4, 2) := by decide +kernel
theorem dL_law_1858 : decode cL_law 1858 = .ok (.iconst 2, 1) := by decide +kernel
theorem dL_law_1859 : decode cL_law 1859 = .ok (.iadd, 1) := by decide +kernel
theorem dL_law_1860 : decode cL_law 1860 = .ok (.iaload, 1) := by decide +kernel
theorem dL_law_1861 : decode cL_law 1861 = .ok (.aload_n 3, 1) := by decide +kernel
theorem dL_law_1862 : decode cL_law 1862 = .ok (.invokestatic 251, 3) := by decide +kernel
theorem dL_law_1865 : decode cL_law 1865 = .ok (.istore 5, 2) := by decide +kernel
theorem dL_law_1867 : decode cL_law 1867 = .ok (.aload_n 2, 1) := by decide +kernel
theorem dL_law_1868 : decode cL_law 1868 = .ok (.aload_n 0, 1) := by decide +kernel
theorem dL_law_1869 : decode cL_law 1869 = .ok (.iload 4, 2) := by decide +kernel
theorem dL_law_1871 : decode cL_law 1871 = .ok (.iconst 1, 1) := by decide +kernel
theorem dL_law_1872 : decode cL_law 1872 = .ok (.iadd, 1) := by decide +kernel
theorem dL_law_1873 : decode cL_law 1873 = .ok (.iaload, 1) := by decide +kernel
theorem dL_law_1874 : decode cL_law 1874 = .ok (.aload_n 0, 1) := by decide +kernel
theorem dL_law_1875 : decode cL_law 1875 = .ok (.iload 4, 2) := by decide +kernel
theorem dL_law_1877 : decode cL_law 1877 = .ok (.iconst 2, 1) := by decide +kernel
theorem dL_law_1878 : decode cL_law 1878 = .ok (.iadd, 1) := by decide +kernel
theorem dL_law_1879 : decode cL_law 1879 = .ok (.iaload, 1) := by decide +kernel
theorem dL_law_1880 : decode cL_law 1880 = .ok (.invokevirtual 253, 3) := by decide +kernel
theorem dL_law_1883 : decode cL_law 1883 = .ok (.istore 6, 2) := by decide +kernel
theorem dL_law_1885 : decode cL_law 1885 = .ok (.aload_n 2, 1) := by decide +kernel
theorem dL_law_1886 : decode cL_law 1886 = .ok (.invokevirtual 160, 3) := by decide +kernel
theorem dL_law_1889 : decode cL_law 1889 = .ok (.iload 5, 2) := by decide +kernel
theorem dL_law_1891 : decode cL_law 1891 = .ok (.if_icmp .eq 5, 3) := by decide +kernel
theorem dL_law_1894 : decode cL_law 1894 = .ok (.iconst 0, 1) := by decide +kernel
theorem dL_law_1895 : decode cL_law 1895 = .ok (.ireturn, 1) := by decide +kernel
theorem dL_law_1896 : decode cL_law 1896 = .ok (.iload 5, 2) := by decide +kernel
theorem dL_law_1898 : decode cL_law 1898 = .ok (.ifCond .ne 15, 3) := by decide +kernel
theorem dL_law_1901 : decode cL_law 1901 = .ok (.aload_n 3, 1) := by decide +kernel
theorem dL_law_1902 : decode cL_law 1902 = .ok (.iconst 0, 1) := by decide +kernel
theorem dL_law_1903 : decode cL_law 1903 = .ok (.laload, 1) := by decide +kernel
theorem dL_law_1904 : decode cL_law 1904 = .ok (.iload 6, 2) := by decide +kernel
theorem dL_law_1906 : decode cL_law 1906 = .ok (.i2l, 1) := by decide +kernel
theorem dL_law_1907 : decode cL_law 1907 = .ok (.lcmp, 1) := by decide +kernel
theorem dL_law_1908 : decode cL_law 1908 = .ok (.ifCond .eq 5, 3) := by decide +kernel
theorem dL_law_1911 : decode cL_law 1911 = .ok (.iconst 0, 1) := by decide +kernel
theorem dL_law_1912 : decode cL_law 1912 = .ok (.ireturn, 1) := by decide +kernel
theorem dL_law_1913 : decode cL_law 1913 = .ok (.goto 1234, 3) := by decide +kernel
theorem dL_law_1916 : decode cL_law 1916 = .ok (.aload_n 1, 1) := by decide +kernel
theorem dL_law_1917 : decode cL_law 1917 = .ok (.aload_n 0, 1) := by decide +kernel
theorem dL_law_1918 : decode cL_law 1918 = .ok (.iload 4, 2) := by decide +kernel
theorem dL_law_1920 : decode cL_law 1920 = .ok (.iconst 1, 1) := by decide +kernel
theorem dL_law_1921 : decode cL_law 1921 = .ok (.iadd, 1) := by decide +kernel
theorem dL_law_1922 : decode cL_law 1922 = .ok (.iaload, 1) := by decide +kernel
theorem dL_law_1923 : decode cL_law 1923 = .ok (.aload_n 0, 1) := by decide +kernel
theorem dL_law_1924 : decode cL_law 1924 = .ok (.iload 4, 2) := by decide +kernel
theorem dL_law_1926 : decode cL_law 1926 = .ok (.iconst 2, 1) := by decide +kernel
theorem dL_law_1927 : decode cL_law 1927 = .ok (.iadd, 1) := by decide +kernel
theorem dL_law_1928 : decode cL_law 1928 = .ok (.iaload, 1) := by decide +kernel
theorem dL_law_1929 : decode cL_law 1929 = .ok (.aload_n 0, 1) := by decide +kernel
theorem dL_law_1930 : decode cL_law 1930 = .ok (.iload 4, 2) := by decide +kernel
theorem dL_law_1932 : decode cL_law 1932 = .ok (.iconst 3, 1) := by decide +kernel
theorem dL_law_1933 : decode cL_law 1933 = .ok (.iadd, 1) := by decide +kernel
theorem dL_law_1934 : decode cL_law 1934 = .ok (.iaload, 1) := by decide +kernel
theorem dL_law_1935 : decode cL_law 1935 = .ok (.aload_n 3, 1) := by decide +kernel
theorem dL_law_1936 : decode cL_law 1936 = .ok (.invokestatic 254, 3) := by decide +kernel
theorem dL_law_1939 : decode cL_law 1939 = .ok (.istore 5, 2) := by decide +kernel
theorem dL_law_1941 : decode cL_law 1941 = .ok (.aload_n 2, 1) := by decide +kernel
theorem dL_law_1942 : decode cL_law 1942 = .ok (.aload_n 0, 1) := by decide +kernel
theorem dL_law_1943 : decode cL_law 1943 = .ok (.iload 4, 2) := by decide +kernel
theorem dL_law_1945 : decode cL_law 1945 = .ok (.iconst 1, 1) := by decide +kernel
theorem dL_law_1946 : decode cL_law 1946 = .ok (.iadd, 1) := by decide +kernel
theorem dL_law_1947 : decode cL_law 1947 = .ok (.iaload, 1) := by decide +kernel
theorem dL_law_1948 : decode cL_law 1948 = .ok (.aload_n 0, 1) := by decide +kernel
theorem dL_law_1949 : decode cL_law 1949 = .ok (.iload 4, 2) := by decide +kernel
theorem dL_law_1951 : decode cL_law 1951 = .ok (.iconst 2, 1) := by decide +kernel
theorem dL_law_1952 : decode cL_law 1952 = .ok (.iadd, 1) := by decide +kernel
theorem dL_law_1953 : decode cL_law 1953 = .ok (.iaload, 1) := by decide +kernel
theorem dL_law_1954 : decode cL_law 1954 = .ok (.aload_n 0, 1) := by decide +kernel
theorem dL_law_1955 : decode cL_law 1955 = .ok (.iload 4, 2) := by decide +kernel
theorem dL_law_1957 : decode cL_law 1957 = .ok (.iconst 3, 1) := by decide +kernel
theorem dL_law_1958 : decode cL_law 1958 = .ok (.iadd, 1) := by decide +kernel
theorem dL_law_1959 : decode cL_law 1959 = .ok (.iaload, 1) := by decide +kernel
theorem dL_law_1960 : decode cL_law 1960 = .ok (.invokevirtual 256, 3) := by decide +kernel
theorem dL_law_1963 : decode cL_law 1963 = .ok (.istore 6, 2) := by decide +kernel
theorem dL_law_1965 : decode cL_law 1965 = .ok (.aload_n 2, 1) := by decide +kernel
theorem dL_law_1966 : decode cL_law 1966 = .ok (.invokevirtual 160, 3) := by decide +kernel
theorem dL_law_1969 : decode cL_law 1969 = .ok (.iload 5, 2) := by decide +kernel
theorem dL_law_1971 : decode cL_law 1971 = .ok (.if_icmp .eq 5, 3) := by decide +kernel
theorem dL_law_1974 : decode cL_law 1974 = .ok (.iconst 0, 1) := by decide +kernel
theorem dL_law_1975 : decode cL_law 1975 = .ok (.ireturn, 1) := by decide +kernel
theorem dL_law_1976 : decode cL_law 1976 = .ok (.iload 5, 2) := by decide +kernel
theorem dL_law_1978 : decode cL_law 1978 = .ok (.ifCond .ne 15, 3) := by decide +kernel
theorem dL_law_1981 : decode cL_law 1981 = .ok (.aload_n 3, 1) := by decide +kernel
theorem dL_law_1982 : decode cL_law 1982 = .ok (.iconst 0, 1) := by decide +kernel
theorem dL_law_1983 : decode cL_law 1983 = .ok (.laload, 1) := by decide +kernel
theorem dL_law_1984 : decode cL_law 1984 = .ok (.iload 6, 2) := by decide +kernel
theorem dL_law_1986 : decode cL_law 1986 = .ok (.i2l, 1) := by decide +kernel
theorem dL_law_1987 : decode cL_law 1987 = .ok (.lcmp, 1) := by decide +kernel
theorem dL_law_1988 : decode cL_law 1988 = .ok (.ifCond .eq 5, 3) := by decide +kernel
theorem dL_law_1991 : decode cL_law 1991 = .ok (.iconst 0, 1) := by decide +kernel
theorem dL_law_1992 : decode cL_law 1992 = .ok (.ireturn, 1) := by decide +kernel
theorem dL_law_1993 : decode cL_law 1993 = .ok (.goto 1154, 3) := by decide +kernel
theorem dL_law_1996 : decode cL_law 1996 = .ok (.aload_n 1, 1) := by decide +kernel
theorem dL_law_1997 : decode cL_law 1997 = .ok (.aload_n 0, 1) := by decide +kernel
theorem dL_law_1998 : decode cL_law 1998 = .ok (.iload 4, 2) := by decide +kernel
theorem dL_law_2000 : decode cL_law 2000 = .ok (.iconst 1, 1) := by decide +kernel
theorem dL_law_2001 : decode cL_law 2001 = .ok (.iadd, 1) := by decide +kernel
theorem dL_law_2002 : decode cL_law 2002 = .ok (.iaload, 1) := by decide +kernel
theorem dL_law_2003 : decode cL_law 2003 = .ok (.aload_n 3, 1) := by decide +kernel
theorem dL_law_2004 : decode cL_law 2004 = .ok (.invokestatic 257, 3) := by decide +kernel
theorem dL_law_2007 : decode cL_law 2007 = .ok (.istore 5, 2) := by decide +kernel
theorem dL_law_2009 : decode cL_law 2009 = .ok (.aload_n 2, 1) := by decide +kernel
theorem dL_law_2010 : decode cL_law 2010 = .ok (.aload_n 0, 1) := by decide +kernel
theorem dL_law_2011 : decode cL_law 2011 = .ok (.iload 4, 2) := by decide +kernel
theorem dL_law_2013 : decode cL_law 2013 = .ok (.iconst 1, 1) := by decide +kernel
theorem dL_law_2014 : decode cL_law 2014 = .ok (.iadd, 1) := by decide +kernel
theorem dL_law_2015 : decode cL_law 2015 = .ok (.iaload, 1) := by decide +kernel
theorem dL_law_2016 : decode cL_law 2016 = .ok (.invokevirtual 259, 3) := by decide +kernel
theorem dL_law_2019 : decode cL_law 2019 = .ok (.istore 6, 2) := by decide +kernel
theorem dL_law_2021 : decode cL_law 2021 = .ok (.aload_n 2, 1) := by decide +kernel
theorem dL_law_2022 : decode cL_law 2022 = .ok (.invokevirtual 160, 3) := by decide +kernel
theorem dL_law_2025 : decode cL_law 2025 = .ok (.iload 5, 2) := by decide +kernel
theorem dL_law_2027 : decode cL_law 2027 = .ok (.if_icmp .eq 5, 3) := by decide +kernel
theorem dL_law_2030 : decode cL_law 2030 = .ok (.iconst 0, 1) := by decide +kernel
theorem dL_law_2031 : decode cL_law 2031 = .ok (.ireturn, 1) := by decide +kernel
theorem dL_law_2032 : decode cL_law 2032 = .ok (.iload 5, 2) := by decide +kernel
theorem dL_law_2034 : decode cL_law 2034 = .ok (.ifCond .ne 15, 3) := by decide +kernel
theorem dL_law_2037 : decode cL_law 2037 = .ok (.aload_n 3, 1) := by decide +kernel
theorem dL_law_2038 : decode cL_law 2038 = .ok (.iconst 0, 1) := by decide +kernel
theorem dL_law_2039 : decode cL_law 2039 = .ok (.laload, 1) := by decide +kernel
theorem dL_law_2040 : decode cL_law 2040 = .ok (.iload 6, 2) := by decide +kernel
theorem dL_law_2042 : decode cL_law 2042 = .ok (.i2l, 1) := by decide +kernel
theorem dL_law_2043 : decode cL_law 2043 = .ok (.lcmp, 1) := by decide +kernel
theorem dL_law_2044 : decode cL_law 2044 = .ok (.ifCond .eq 5, 3) := by decide +kernel
theorem dL_law_2047 : decode cL_law 2047 = .ok (.iconst 0, 1) := by decide +kernel
theorem dL_law_2048 : decode cL_law 2048 = .ok (.ireturn, 1) := by decide +kernel
theorem dL_law_2049 : decode cL_law 2049 = .ok (.goto 1098, 3) := by decide +kernel
theorem dL_law_2052 : decode cL_law 2052 = .ok (.aload_n 1, 1) := by decide +kernel
theorem dL_law_2053 : decode cL_law 2053 = .ok (.aload_n 0, 1) := by decide +kernel
theorem dL_law_2054 : decode cL_law 2054 = .ok (.iload 4, 2) := by decide +kernel
theorem dL_law_2056 : decode cL_law 2056 = .ok (.iconst 1, 1) := by decide +kernel
theorem dL_law_2057 : decode cL_law 2057 = .ok (.iadd, 1) := by decide +kernel
theorem dL_law_2058 : decode cL_law 2058 = .ok (.iaload, 1) := by decide +kernel
theorem dL_law_2059 : decode cL_law 2059 = .ok (.aload_n 3, 1) := by decide +kernel
theorem dL_law_2060 : decode cL_law 2060 = .ok (.invokestatic 260, 3) := by decide +kernel
theorem dL_law_2063 : decode cL_law 2063 = .ok (.istore 5, 2) := by decide +kernel
theorem dL_law_2065 : decode cL_law 2065 = .ok (.aload_n 2, 1) := by decide +kernel
theorem dL_law_2066 : decode cL_law 2066 = .ok (.aload_n 0, 1) := by decide +kernel
theorem dL_law_2067 : decode cL_law 2067 = .ok (.iload 4, 2) := by decide +kernel
theorem dL_law_2069 : decode cL_law 2069 = .ok (.iconst 1, 1) := by decide +kernel
theorem dL_law_2070 : decode cL_law 2070 = .ok (.iadd, 1) := by decide +kernel
theorem dL_law_2071 : decode cL_law 2071 = .ok (.iaload, 1) := by decide +kernel
theorem dL_law_2072 : decode cL_law 2072 = .ok (.invokevirtual 262, 3) := by decide +kernel
theorem dL_law_2075 : decode cL_law 2075 = .ok (.istore 6, 2) := by decide +kernel
theorem dL_law_2077 : decode cL_law 2077 = .ok (.aload_n 2, 1) := by decide +kernel
theorem dL_law_2078 : decode cL_law 2078 = .ok (.invokevirtual 160, 3) := by decide +kernel
theorem dL_law_2081 : decode cL_law 2081 = .ok (.iload 5, 2) := by decide +kernel
theorem dL_law_2083 : decode cL_law 2083 = .ok (.if_icmp .eq 5, 3) := by decide +kernel
theorem dL_law_2086 : decode cL_law 2086 = .ok (.iconst 0, 1) := by decide +kernel
theorem dL_law_2087 : decode cL_law 2087 = .ok (.ireturn, 1) := by decide +kernel
theorem dL_law_2088 : decode cL_law 2088 = .ok (.iload 5, 2) := by decide +kernel
theorem dL_law_2090 : decode cL_law 2090 = .ok (.ifCond .ne 15, 3) := by decide +kernel
theorem dL_law_2093 : decode cL_law 2093 = .ok (.aload_n 3, 1) := by decide +kernel
theorem dL_law_2094 : decode cL_law 2094 = .ok (.iconst 0, 1) := by decide +kernel
theorem dL_law_2095 : decode cL_law 2095 = .ok (.laload, 1) := by decide +kernel
theorem dL_law_2096 : decode cL_law 2096 = .ok (.iload 6, 2) := by decide +kernel
theorem dL_law_2098 : decode cL_law 2098 = .ok (.i2l, 1) := by decide +kernel
theorem dL_law_2099 : decode cL_law 2099 = .ok (.lcmp, 1) := by decide +kernel
theorem dL_law_2100 : decode cL_law 2100 = .ok (.ifCond .eq 5, 3) := by decide +kernel
theorem dL_law_2103 : decode cL_law 2103 = .ok (.iconst 0, 1) := by decide +kernel
theorem dL_law_2104 : decode cL_law 2104 = .ok (.ireturn, 1) := by decide +kernel
theorem dL_law_2105 : decode cL_law 2105 = .ok (.goto 1042, 3) := by decide +kernel
theorem dL_law_2108 : decode cL_law 2108 = .ok (.aload_n 1, 1) := by decide +kernel
theorem dL_law_2109 : decode cL_law 2109 = .ok (.aload_n 0, 1) := by decide +kernel
theorem dL_law_2110 : decode cL_law 2110 = .ok (.iload 4, 2) := by decide +kernel
theorem dL_law_2112 : decode cL_law 2112 = .ok (.iconst 1, 1) := by decide +kernel
theorem dL_law_2113 : decode cL_law 2113 = .ok (.iadd, 1) := by decide +kernel
theorem dL_law_2114 : decode cL_law 2114 = .ok (.iaload, 1) := by decide +kernel
theorem dL_law_2115 : decode cL_law 2115 = .ok (.aload_n 0, 1) := by decide +kernel
theorem dL_law_2116 : decode cL_law 2116 = .ok (.iload 4, 2) := by decide +kernel
theorem dL_law_2118 : decode cL_law 2118 = .ok (.iconst 2, 1) := by decide +kernel
theorem dL_law_2119 : decode cL_law 2119 = .ok (.iadd, 1) := by decide +kernel
theorem dL_law_2120 : decode cL_law 2120 = .ok (.iaload, 1) := by decide +kernel
theorem dL_law_2121 : decode cL_law 2121 = .ok (.aload_n 3, 1) := by decide +kernel
theorem dL_law_2122 : decode cL_law 2122 = .ok (.invokestatic 263, 3) := by decide +kernel
theorem dL_law_2125 : decode cL_law 2125 = .ok (.istore 5, 2) := by decide +kernel
theorem dL_law_2127 : decode cL_law 2127 = .ok (.aload_n 2, 1) := by decide +kernel
theorem dL_law_2128 : decode cL_law 2128 = .ok (.aload_n 0, 1) := by decide +kernel
theorem dL_law_2129 : decode cL_law 2129 = .ok (.iload 4, 2) := by decide +kernel
theorem dL_law_2131 : decode cL_law 2131 = .ok (.iconst 1, 1) := by decide +kernel
theorem dL_law_2132 : decode cL_law 2132 = .ok (.iadd, 1) := by decide +kernel
theorem dL_law_2133 : decode cL_law 2133 = .ok (.iaload, 1) := by decide +kernel
theorem dL_law_2134 : decode cL_law 2134 = .ok (.aload_n 0, 1) := by decide +kernel
theorem dL_law_2135 : decode cL_law 2135 = .ok (.iload 4, 2) := by decide +kernel
theorem dL_law_2137 : decode cL_law 2137 = .ok (.iconst 2, 1) := by decide +kernel
theorem dL_law_2138 : decode cL_law 2138 = .ok (.iadd, 1) := by decide +kernel
theorem dL_law_2139 : decode cL_law 2139 = .ok (.iaload, 1) := by decide +kernel
theorem dL_law_2140 : decode cL_law 2140 = .ok (.invokevirtual 265, 3) := by decide +kernel
theorem dL_law_2143 : decode cL_law 2143 = .ok (.istore 6, 2) := by decide +kernel
theorem dL_law_2145 : decode cL_law 2145 = .ok (.aload_n 2, 1) := by decide +kernel
theorem dL_law_2146 : decode cL_law 2146 = .ok (.invokevirtual 160, 3) := by decide +kernel
theorem dL_law_2149 : decode cL_law 2149 = .ok (.iload 5, 2) := by decide +kernel
theorem dL_law_2151 : decode cL_law 2151 = .ok (.if_icmp .eq 5, 3) := by decide +kernel
theorem dL_law_2154 : decode cL_law 2154 = .ok (.iconst 0, 1) := by decide +kernel
theorem dL_law_2155 : decode cL_law 2155 = .ok (.ireturn, 1) := by decide +kernel
theorem dL_law_2156 : decode cL_law 2156 = .ok (.iload 5, 2) := by decide +kernel
theorem dL_law_2158 : decode cL_law 2158 = .ok (.ifCond .ne 15, 3) := by decide +kernel
theorem dL_law_2161 : decode cL_law 2161 = .ok (.aload_n 3, 1) := by decide +kernel
theorem dL_law_2162 : decode cL_law 2162 = .ok (.iconst 0, 1) := by decide +kernel
theorem dL_law_2163 : decode cL_law 2163 = .ok (.laload, 1) := by decide +kernel
theorem dL_law_2164 : decode cL_law 2164 = .ok (.iload 6, 2) := by decide +kernel
theorem dL_law_2166 : decode cL_law 2166 = .ok (.i2l, 1) := by decide +kernel
theorem dL_law_2167 : decode cL_law 2167 = .ok (.lcmp, 1) := by decide +kernel
theorem dL_law_2168 : decode cL_law 2168 = .ok (.ifCond .eq 5, 3) := by decide +kernel
theorem dL_law_2171 : decode cL_law 2171 = .ok (.iconst 0, 1) := by decide +kernel
theorem dL_law_2172 : decode cL_law 2172 = .ok (.ireturn, 1) := by decide +kernel
theorem dL_law_2173 : decode cL_law 2173 = .ok (.goto 974, 3) := by decide +kernel
theorem dL_law_2176 : decode cL_law 2176 = .ok (.aload_n 1, 1) := by decide +kernel
theorem dL_law_2177 : decode cL_law 2177 = .ok (.aload_n 0, 1) := by decide +kernel
theorem dL_law_2178 : decode cL_law 2178 = .ok (.iload 4, 2) := by decide +kernel
theorem dL_law_2180 : decode cL_law 2180 = .ok (.iconst 1, 1) := by decide +kernel
theorem dL_law_2181 : decode cL_law 2181 = .ok (.iadd, 1) := by decide +kernel
theorem dL_law_2182 : decode cL_law 2182 = .ok (.iaload, 1) := by decide +kernel
theorem dL_law_2183 : decode cL_law 2183 = .ok (.aload_n 0, 1) := by decide +kernel
theorem dL_law_2184 : decode cL_law 2184 = .ok (.iload 4, 2) := by decide +kernel
theorem dL_law_2186 : decode cL_law 2186 = .ok (.iconst 2, 1) := by decide +kernel
theorem dL_law_2187 : decode cL_law 2187 = .ok (.iadd, 1) := by decide +kernel
theorem dL_law_2188 : decode cL_law 2188 = .ok (.iaload, 1) := by decide +kernel
theorem dL_law_2189 : decode cL_law 2189 = .ok (.aload_n 0, 1) := by decide +kernel
theorem dL_law_2190 : decode cL_law 2190 = .ok (.iload 4, 2) := by decide +kernel
theorem dL_law_2192 : decode cL_law 2192 = .ok (.iconst 3, 1) := by decide +kernel
theorem dL_law_2193 : decode cL_law 2193 = .ok (.iadd, 1) := by decide +kernel
theorem dL_law_2194 : decode cL_law 2194 = .ok (.iaload, 1) := by decide +kernel
theorem dL_law_2195 : decode cL_law 2195 = .ok (.aload_n 3, 1) := by decide +kernel
theorem dL_law_2196 : decode cL_law 2196 = .ok (.invokestatic 266, 3) := by decide +kernel
theorem dL_law_2199 : decode cL_law 2199 = .ok (.istore 5, 2) := by decide +kernel
theorem dL_law_2201 : decode cL_law 2201 = .ok (.aload_n 2, 1) := by decide +kernel
theorem dL_law_2202 : decode cL_law 2202 = .ok (.aload_n 0, 1) := by decide +kernel
theorem dL_law_2203 : decode cL_law 2203 = .ok (.iload 4, 2) := by decide +kernel
theorem dL_law_2205 : decode cL_law 2205 = .ok (.iconst 1, 1) := by decide +kernel
theorem dL_law_2206 : decode cL_law 2206 = .ok (.iadd, 1) := by decide +kernel
theorem dL_law_2207 : decode cL_law 2207 = .ok (.iaload, 1) := by decide +kernel
theorem dL_law_2208 : decode cL_law 2208 = .ok (.aload_n 0, 1) := by decide +kernel
theorem dL_law_2209 : decode cL_law 2209 = .ok (.iload 4, 2) := by decide +kernel
theorem dL_law_2211 : decode cL_law 2211 = .ok (.iconst 2, 1) := by decide +kernel
theorem dL_law_2212 : decode cL_law 2212 = .ok (.iadd, 1) := by decide +kernel
theorem dL_law_2213 : decode cL_law 2213 = .ok (.iaload, 1) := by decide +kernel
theorem dL_law_2214 : decode cL_law 2214 = .ok (.aload_n 0, 1) := by decide +kernel
theorem dL_law_2215 : decode cL_law 2215 = .ok (.iload 4, 2) := by decide +kernel
theorem dL_law_2217 : decode cL_law 2217 = .ok (.iconst 3, 1) := by decide +kernel
theorem dL_law_2218 : decode cL_law 2218 = .ok (.iadd, 1) := by decide +kernel
theorem dL_law_2219 : decode cL_law 2219 = .ok (.iaload, 1) := by decide +kernel
theorem dL_law_2220 : decode cL_law 2220 = .ok (.invokevirtual 268, 3) := by decide +kernel
theorem dL_law_2223 : decode cL_law 2223 = .ok (.istore 6, 2) := by decide +kernel
theorem dL_law_2225 : decode cL_law 2225 = .ok (.aload_n 2, 1) := by decide +kernel
theorem dL_law_2226 : decode cL_law 2226 = .ok (.invokevirtual 160, 3) := by decide +kernel
theorem dL_law_2229 : decode cL_law 2229 = .ok (.iload 5, 2) := by decide +kernel
theorem dL_law_2231 : decode cL_law 2231 = .ok (.if_icmp .eq 5, 3) := by decide +kernel
theorem dL_law_2234 : decode cL_law 2234 = .ok (.iconst 0, 1) := by decide +kernel
theorem dL_law_2235 : decode cL_law 2235 = .ok (.ireturn, 1) := by decide +kernel
theorem dL_law_2236 : decode cL_law 2236 = .ok (.iload 5, 2) := by decide +kernel
theorem dL_law_2238 : decode cL_law 2238 = .ok (.ifCond .ne 15, 3) := by decide +kernel
theorem dL_law_2241 : decode cL_law 2241 = .ok (.aload_n 3, 1) := by decide +kernel
theorem dL_law_2242 : decode cL_law 2242 = .ok (.iconst 0, 1) := by decide +kernel
theorem dL_law_2243 : decode cL_law 2243 = .ok (.laload, 1) := by decide +kernel
theorem dL_law_2244 : decode cL_law 2244 = .ok (.iload 6, 2) := by decide +kernel
theorem dL_law_2246 : decode cL_law 2246 = .ok (.i2l, 1) := by decide +kernel
theorem dL_law_2247 : decode cL_law 2247 = .ok (.lcmp, 1) := by decide +kernel
theorem dL_law_2248 : decode cL_law 2248 = .ok (.ifCond .eq 5, 3) := by decide +kernel
theorem dL_law_2251 : decode cL_law 2251 = .ok (.iconst 0, 1) := by decide +kernel
theorem dL_law_2252 : decode cL_law 2252 = .ok (.ireturn, 1) := by decide +kernel
theorem dL_law_2253 : decode cL_law 2253 = .ok (.goto 894, 3) := by decide +kernel
theorem dL_law_2256 : decode cL_law 2256 = .ok (.aload_n 1, 1) := by decide +kernel
theorem dL_law_2257 : decode cL_law 2257 = .ok (.invokevirtual 269, 3) := by decide +kernel
theorem dL_law_2260 : decode cL_law 2260 = .ok (.aload_n 2, 1) := by decide +kernel
theorem dL_law_2261 : decode cL_law 2261 = .ok (.invokevirtual 272, 3) := by decide +kernel
theorem dL_law_2264 : decode cL_law 2264 = .ok (.if_icmp .eq 883, 3) := by decide +kernel
theorem dL_law_2267 : decode cL_law 2267 = .ok (.iconst 0, 1) := by decide +kernel
theorem dL_law_2268 : decode cL_law 2268 = .ok (.ireturn, 1) := by decide +kernel
theorem dL_law_2269 : decode cL_law 2269 = .ok (.aload_n 1, 1) := by decide +kernel
theorem dL_law_2270 : decode cL_law 2270 = .ok (.aload_n 0, 1) := by decide +kernel
theorem dL_law_2271 : decode cL_law 2271 = .ok (.iload 4, 2) := by decide +kernel
theorem dL_law_2273 : decode cL_law 2273 = .ok (.iconst 1, 1) := by decide +kernel
theorem dL_law_2274 : decode cL_law 2274 = .ok (.iadd, 1) := by decide +kernel
theorem dL_law_2275 : decode cL_law 2275 = .ok (.iaload, 1) := by decide +kernel
theorem dL_law_2276 : decode cL_law 2276 = .ok (.aload_n 0, 1) := by decide +kernel
theorem dL_law_2277 : decode cL_law 2277 = .ok (.iload 4, 2) := by decide +kernel
theorem dL_law_2279 : decode cL_law 2279 = .ok (.iconst 2, 1) := by decide +kernel
theorem dL_law_2280 : decode cL_law 2280 = .ok (.iadd, 1) := by decide +kernel
theorem dL_law_2281 : decode cL_law 2281 = .ok (.iaload, 1) := by decide +kernel
theorem dL_law_2282 : decode cL_law 2282 = .ok (.aload_n 3, 1) := by decide +kernel
theorem dL_law_2283 : decode cL_law 2283 = .ok (.invokestatic 273, 3) := by decide +kernel
theorem dL_law_2286 : decode cL_law 2286 = .ok (.istore 5, 2) := by decide +kernel
theorem dL_law_2288 : decode cL_law 2288 = .ok (.aload_n 2, 1) := by decide +kernel
theorem dL_law_2289 : decode cL_law 2289 = .ok (.aload_n 0, 1) := by decide +kernel
theorem dL_law_2290 : decode cL_law 2290 = .ok (.iload 4, 2) := by decide +kernel
theorem dL_law_2292 : decode cL_law 2292 = .ok (.iconst 1, 1) := by decide +kernel
theorem dL_law_2293 : decode cL_law 2293 = .ok (.iadd, 1) := by decide +kernel
theorem dL_law_2294 : decode cL_law 2294 = .ok (.iaload, 1) := by decide +kernel
theorem dL_law_2295 : decode cL_law 2295 = .ok (.aload_n 0, 1) := by decide +kernel
theorem dL_law_2296 : decode cL_law 2296 = .ok (.iload 4, 2) := by decide +kernel
theorem dL_law_2298 : decode cL_law 2298 = .ok (.iconst 2, 1) := by decide +kernel
theorem dL_law_2299 : decode cL_law 2299 = .ok (.iadd, 1) := by decide +kernel
theorem dL_law_2300 : decode cL_law 2300 = .ok (.iaload, 1) := by decide +kernel
theorem dL_law_2301 : decode cL_law 2301 = .ok (.invokevirtual 275, 3) := by decide +kernel
theorem dL_law_2304 : decode cL_law 2304 = .ok (.istore 6, 2) := by decide +kernel
theorem dL_law_2306 : decode cL_law 2306 = .ok (.aload_n 2, 1) := by decide +kernel
theorem dL_law_2307 : decode cL_law 2307 = .ok (.invokevirtual 160, 3) := by decide +kernel
theorem dL_law_2310 : decode cL_law 2310 = .ok (.iload 5, 2) := by decide +kernel
theorem dL_law_2312 : decode cL_law 2312 = .ok (.if_icmp .eq 5, 3) := by decide +kernel
theorem dL_law_2315 : decode cL_law 2315 = .ok (.iconst 0, 1) := by decide +kernel
theorem dL_law_2316 : decode cL_law 2316 = .ok (.ireturn, 1) := by decide +kernel
theorem dL_law_2317 : decode cL_law 2317 = .ok (.iload 5, 2) := by decide +kernel
theorem dL_law_2319 : decode cL_law 2319 = .ok (.ifCond .ne 15, 3) := by decide +kernel
theorem dL_law_2322 : decode cL_law 2322 = .ok (.aload_n 3, 1) := by decide +kernel
theorem dL_law_2323 : decode cL_law 2323 = .ok (.iconst 0, 1) := by decide +kernel
theorem dL_law_2324 : decode cL_law 2324 = .ok (.laload, 1) := by decide +kernel
theorem dL_law_2325 : decode cL_law 2325 = .ok (.iload 6, 2) := by decide +kernel
theorem dL_law_2327 : decode cL_law 2327 = .ok (.i2l, 1) := by decide +kernel
theorem dL_law_2328 : decode cL_law 2328 = .ok (.lcmp, 1) := by decide +kernel
theorem dL_law_2329 : decode cL_law 2329 = .ok (.ifCond .eq 5, 3) := by decide +kernel
theorem dL_law_2332 : decode cL_law 2332 = .ok (.iconst 0, 1) := by decide +kernel
theorem dL_law_2333 : decode cL_law 2333 = .ok (.ireturn, 1) := by decide +kernel
theorem dL_law_2334 : decode cL_law 2334 = .ok (.goto 813, 3) := by decide +kernel
theorem dL_law_2337 : decode cL_law 2337 = .ok (.aload_n 1, 1) := by decide +kernel
theorem dL_law_2338 : decode cL_law 2338 = .ok (.aload_n 0, 1) := by decide +kernel
theorem dL_law_2339 : decode cL_law 2339 = .ok (.iload 4, 2) := by decide +kernel
theorem dL_law_2341 : decode cL_law 2341 = .ok (.iconst 1, 1) := by decide +kernel
theorem dL_law_2342 : decode cL_law 2342 = .ok (.iadd, 1) := by decide +kernel
theorem dL_law_2343 : decode cL_law 2343 = .ok (.iaload, 1) := by decide +kernel
theorem dL_law_2344 : decode cL_law 2344 = .ok (.aload_n 0, 1) := by decide +kernel
theorem dL_law_2345 : decode cL_law 2345 = .ok (.iload 4, 2) := by decide +kernel
theorem dL_law_2347 : decode cL_law 2347 = .ok (.iconst 2, 1) := by decide +kernel
theorem dL_law_2348 : decode cL_law 2348 = .ok (.iadd, 1) := by decide +kernel
theorem dL_law_2349 : decode cL_law 2349 = .ok (.iaload, 1) := by decide +kernel
theorem dL_law_2350 : decode cL_law 2350 = .ok (.aload_n 3, 1) := by decide +kernel
theorem dL_law_2351 : decode cL_law 2351 = .ok (.invokestatic 276, 3) := by decide +kernel
theorem dL_law_2354 : decode cL_law 2354 = .ok (.istore 5, 2) := by decide +kernel
theorem dL_law_2356 : decode cL_law 2356 = .ok (.aload_n 2, 1) := by decide +kernel
theorem dL_law_2357 : decode cL_law 2357 = .ok (.aload_n 0, 1) := by decide +kernel
theorem dL_law_2358 : decode cL_law 2358 = .ok (.iload 4, 2) := by decide +kernel
theorem dL_law_2360 : decode cL_law 2360 = .ok (.iconst 1, 1) := by decide +kernel
theorem dL_law_2361 : decode cL_law 2361 = .ok (.iadd, 1) := by decide +kernel
theorem dL_law_2362 : decode cL_law 2362 = .ok (.iaload, 1) := by decide +kernel
theorem dL_law_2363 : decode cL_law 2363 = .ok (.aload_n 0, 1) := by decide +kernel
theorem dL_law_2364 : decode cL_law 2364 = .ok (.iload 4, 2) := by decide +kernel
theorem dL_law_2366 : decode cL_law 2366 = .ok (.iconst 2, 1) := by decide +kernel
theorem dL_law_2367 : decode cL_law 2367 = .ok (.iadd, 1) := by decide +kernel
theorem dL_law_2368 : decode cL_law 2368 = .ok (.iaload, 1) := by decide +kernel
theorem dL_law_2369 : decode cL_law 2369 = .ok (.invokevirtual 278, 3) := by decide +kernel
theorem dL_law_2372 : decode cL_law 2372 = .ok (.istore 6, 2) := by decide +kernel
theorem dL_law_2374 : decode cL_law 2374 = .ok (.aload_n 2, 1) := by decide +kernel
theorem dL_law_2375 : decode cL_law 2375 = .ok (.invokevirtual 160, 3) := by decide +kernel
theorem dL_law_2378 : decode cL_law 2378 = .ok (.iload 5, 2) := by decide +kernel
theorem dL_law_2380 : decode cL_law 2380 = .ok (.if_icmp .eq 5, 3) := by decide +kernel
theorem dL_law_2383 : decode cL_law 2383 = .ok (.iconst 0, 1) := by decide +kernel
theorem dL_law_2384 : decode cL_law 2384 = .ok (.ireturn, 1) := by decide +kernel
theorem dL_law_2385 : decode cL_law 2385 = .ok (.iload 5, 2) := by decide +kernel
theorem dL_law_2387 : decode cL_law 2387 = .ok (.ifCond .ne 15, 3) := by decide +kernel
theorem dL_law_2390 : decode cL_law 2390 = .ok (.aload_n 3, 1) := by decide +kernel
theorem dL_law_2391 : decode cL_law 2391 = .ok (.iconst 0, 1) := by decide +kernel
theorem dL_law_2392 : decode cL_law 2392 = .ok (.laload, 1) := by decide +kernel
theorem dL_law_2393 : decode cL_law 2393 = .ok (.iload 6, 2) := by decide +kernel
theorem dL_law_2395 : decode cL_law 2395 = .ok (.i2l, 1) := by decide +kernel
theorem dL_law_2396 : decode cL_law 2396 = .ok (.lcmp, 1) := by decide +kernel
theorem dL_law_2397 : decode cL_law 2397 = .ok (.ifCond .eq 5, 3) := by decide +kernel
theorem dL_law_2400 : decode cL_law 2400 = .ok (.iconst 0, 1) := by decide +kernel
theorem dL_law_2401 : decode cL_law 2401 = .ok (.ireturn, 1) := by decide +kernel
theorem dL_law_2402 : decode cL_law 2402 = .ok (.goto 745, 3) := by decide +kernel
theorem dL_law_2405 : decode cL_law 2405 = .ok (.aload_n 1, 1) := by decide +kernel
theorem dL_law_2406 : decode cL_law 2406 = .ok (.aload_n 0, 1) := by decide +kernel
theorem dL_law_2407 : decode cL_law 2407 = .ok (.iload 4, 2) := by decide +kernel
theorem dL_law_2409 : decode cL_law 2409 = .ok (.iconst 1, 1) := by decide +kernel
theorem dL_law_2410 : decode cL_law 2410 = .ok (.iadd, 1) := by decide +kernel
theorem dL_law_2411 : decode cL_law 2411 = .ok (.iaload, 1) := by decide +kernel
theorem dL_law_2412 : decode cL_law 2412 = .ok (.aload_n 0, 1) := by decide +kernel
theorem dL_law_2413 : decode cL_law 2413 = .ok (.iload 4, 2) := by decide +kernel
theorem dL_law_2415 : decode cL_law 2415 = .ok (.iconst 2, 1) := by decide +kernel
theorem dL_law_2416 : decode cL_law 2416 = .ok (.iadd, 1) := by decide +kernel
theorem dL_law_2417 : decode cL_law 2417 = .ok (.iaload, 1) := by decide +kernel
theorem dL_law_2418 : decode cL_law 2418 = .ok (.aload_n 3, 1) := by decide +kernel
theorem dL_law_2419 : decode cL_law 2419 = .ok (.invokestatic 279, 3) := by decide +kernel
theorem dL_law_2422 : decode cL_law 2422 = .ok (.istore 5, 2) := by decide +kernel
theorem dL_law_2424 : decode cL_law 2424 = .ok (.aload_n 2, 1) := by decide +kernel
theorem dL_law_2425 : decode cL_law 2425 = .ok (.aload_n 0, 1) := by decide +kernel
theorem dL_law_2426 : decode cL_law 2426 = .ok (.iload 4, 2) := by decide +kernel
theorem dL_law_2428 : decode cL_law 2428 = .ok (.iconst 1, 1) := by decide +kernel
theorem dL_law_2429 : decode cL_law 2429 = .ok (.iadd, 1) := by decide +kernel
theorem dL_law_2430 : decode cL_law 2430 = .ok (.iaload, 1) := by decide +kernel
theorem dL_law_2431 : decode cL_law 2431 = .ok (.aload_n 0, 1) := by decide +kernel
theorem dL_law_2432 : decode cL_law 2432 = .ok (.iload 4, 2) := by decide +kernel
theorem dL_law_2434 : decode cL_law 2434 = .ok (.iconst 2, 1) := by decide +kernel
theorem dL_law_2435 : decode cL_law 2435 = .ok (.iadd, 1) := by decide +kernel
theorem dL_law_2436 : decode cL_law 2436 = .ok (.iaload, 1) := by decide +kernel
theorem dL_law_2437 : decode cL_law 2437 = .ok (.invokevirtual 281, 3) := by decide +kernel
theorem dL_law_2440 : decode cL_law 2440 = .ok (.istore 6, 2) := by decide +kernel
theorem dL_law_2442 : decode cL_law 2442 = .ok (.aload_n 2, 1) := by decide +kernel
theorem dL_law_2443 : decode cL_law 2443 = .ok (.invokevirtual 160, 3) := by decide +kernel
theorem dL_law_2446 : decode cL_law 2446 = .ok (.iload 5, 2) := by decide +kernel
theorem dL_law_2448 : decode cL_law 2448 = .ok (.if_icmp .eq 5, 3) := by decide +kernel
theorem dL_law_2451 : decode cL_law 2451 = .ok (.iconst 0, 1) := by decide +kernel
theorem dL_law_2452 : decode cL_law 2452 = .ok (.ireturn, 1) := by decide +kernel
theorem dL_law_2453 : decode cL_law 2453 = .ok (.iload 5, 2) := by decide +kernel
theorem dL_law_2455 : decode cL_law 2455 = .ok (.ifCond .ne 15, 3) := by decide +kernel
theorem dL_law_2458 : decode cL_law 2458 = .ok (.aload_n 3, 1) := by decide +kernel
theorem dL_law_2459 : decode cL_law 2459 = .ok (.iconst 0, 1) := by decide +kernel
theorem dL_law_2460 : decode cL_law 2460 = .ok (.laload, 1) := by decide +kernel
theorem dL_law_2461 : decode cL_law 2461 = .ok (.iload 6, 2) := by decide +kernel
theorem dL_law_2463 : decode cL_law 2463 = .ok (.i2l, 1) := by decide +kernel
theorem dL_law_2464 : decode cL_law 2464 = .ok (.lcmp, 1) := by decide +kernel
theorem dL_law_2465 : decode cL_law 2465 = .ok (.ifCond .eq 5, 3) := by decide +kernel
theorem dL_law_2468 : decode cL_law 2468 = .ok (.iconst 0, 1) := by decide +kernel
theorem dL_law_2469 : decode cL_law 2469 = .ok (.ireturn, 1) := by decide +kernel
theorem dL_law_2470 : decode cL_law 2470 = .ok (.goto 677, 3) := by decide +kernel
theorem dL_law_2473 : decode cL_law 2473 = .ok (.aload_n 1, 1) := by decide +kernel
theorem dL_law_2474 : decode cL_law 2474 = .ok (.aload_n 0, 1) := by decide +kernel
theorem dL_law_2475 : decode cL_law 2475 = .ok (.iload 4, 2) := by decide +kernel
theorem dL_law_2477 : decode cL_law 2477 = .ok (.iconst 1, 1) := by decide +kernel
theorem dL_law_2478 : decode cL_law 2478 = .ok (.iadd, 1) := by decide +kernel
theorem dL_law_2479 : decode cL_law 2479 = .ok (.iaload, 1) := by decide +kernel
theorem dL_law_2480 : decode cL_law 2480 = .ok (.aload_n 3, 1) := by decide +kernel
theorem dL_law_2481 : decode cL_law 2481 = .ok (.invokestatic 282, 3) := by decide +kernel
theorem dL_law_2484 : decode cL_law 2484 = .ok (.istore 5, 2) := by decide +kernel
theorem dL_law_2486 : decode cL_law 2486 = .ok (.aload_n 2, 1) := by decide +kernel
theorem dL_law_2487 : decode cL_law 2487 = .ok (.aload_n 0, 1) := by decide +kernel
theorem dL_law_2488 : decode cL_law 2488 = .ok (.iload 4, 2) := by decide +kernel
theorem dL_law_2490 : decode cL_law 2490 = .ok (.iconst 1, 1) := by decide +kernel
theorem dL_law_2491 : decode cL_law 2491 = .ok (.iadd, 1) := by decide +kernel
theorem dL_law_2492 : decode cL_law 2492 = .ok (.iaload, 1) := by decide +kernel
theorem dL_law_2493 : decode cL_law 2493 = .ok (.invokevirtual 284, 3) := by decide +kernel
theorem dL_law_2496 : decode cL_law 2496 = .ok (.istore 6, 2) := by decide +kernel
theorem dL_law_2498 : decode cL_law 2498 = .ok (.aload_n 2, 1) := by decide +kernel
theorem dL_law_2499 : decode cL_law 2499 = .ok (.invokevirtual 160, 3) := by decide +kernel
theorem dL_law_2502 : decode cL_law 2502 = .ok (.iload 5, 2) := by decide +kernel
theorem dL_law_2504 : decode cL_law 2504 = .ok (.if_icmp .eq 5, 3) := by decide +kernel
theorem dL_law_2507 : decode cL_law 2507 = .ok (.iconst 0, 1) := by decide +kernel
theorem dL_law_2508 : decode cL_law 2508 = .ok (.ireturn, 1) := by decide +kernel
theorem dL_law_2509 : decode cL_law 2509 = .ok (.iload 5, 2) := by decide +kernel
theorem dL_law_2511 : decode cL_law 2511 = .ok (.ifCond .ne 15, 3) := by decide +kernel
theorem dL_law_2514 : decode cL_law 2514 = .ok (.aload_n 3, 1) := by decide +kernel
theorem dL_law_2515 : decode cL_law 2515 = .ok (.iconst 0, 1) := by decide +kernel
theorem dL_law_2516 : decode cL_law 2516 = .ok (.laload, 1) := by decide +kernel
theorem dL_law_2517 : decode cL_law 2517 = .ok (.iload 6, 2) := by decide +kernel
theorem dL_law_2519 : decode cL_law 2519 = .ok (.i2l, 1) := by decide +kernel
theorem dL_law_2520 : decode cL_law 2520 = .ok (.lcmp, 1) := by decide +kernel
theorem dL_law_2521 : decode cL_law 2521 = .ok (.ifCond .eq 5, 3) := by decide +kernel
theorem dL_law_2524 : decode cL_law 2524 = .ok (.iconst 0, 1) := by decide +kernel
theorem dL_law_2525 : decode cL_law 2525 = .ok (.ireturn, 1) := by decide +kernel
theorem dL_law_2526 : decode cL_law 2526 = .ok (.goto 621, 3) := by decide +kernel
theorem dL_law_2529 : decode cL_law 2529 = .ok (.aload_n 1, 1) := by decide +kernel
theorem dL_law_2530 : decode cL_law 2530 = .ok (.invokevirtual 285, 3) := by decide +kernel
theorem dL_law_2533 : decode cL_law 2533 = .ok (.aload_n 2, 1) := by decide +kernel
theorem dL_law_2534 : decode cL_law 2534 = .ok (.invokevirtual 288, 3) := by decide +kernel
theorem dL_law_2537 : decode cL_law 2537 = .ok (.if_icmp .eq 610, 3) := by decide +kernel
theorem dL_law_2540 : decode cL_law 2540 = .ok (.iconst 0, 1) := by decide +kernel
theorem dL_law_2541 : decode cL_law 2541 = .ok (.ireturn, 1) := by decide +kernel
theorem dL_law_2542 : decode cL_law 2542 = .ok (.aload_n 1, 1) := by decide +kernel
theorem dL_law_2543 : decode cL_law 2543 = .ok (.aload_n 0, 1) := by decide +kernel
theorem dL_law_2544 : decode cL_law 2544 = .ok (.iload 4, 2) := by decide +kernel
theorem dL_law_2546 : decode cL_law 2546 = .ok (.iconst 1, 1) := by decide +kernel
theorem dL_law_2547 : decode cL_law 2547 = .ok (.iadd, 1) := by decide +kernel
theorem dL_law_2548 : decode cL_law 2548 = .ok (.iaload, 1) := by decide +kernel
theorem dL_law_2549 : decode cL_law 2549 = .ok (.aload_n 3, 1) := by decide +kernel
theorem dL_law_2550 : decode cL_law 2550 = .ok (.invokestatic 289, 3) := by decide +kernel
theorem dL_law_2553 : decode cL_law 2553 = .ok (.istore 5, 2) := by decide +kernel
theorem dL_law_2555 : decode cL_law 2555 = .ok (.aload_n 2, 1) := by decide +kernel
theorem dL_law_2556 : decode cL_law 2556 = .ok (.aload_n 0, 1) := by decide +kernel
theorem dL_law_2557 : decode cL_law 2557 = .ok (.iload 4, 2) := by decide +kernel
theorem dL_law_2559 : decode cL_law 2559 = .ok (.iconst 1, 1) := by decide +kernel
theorem dL_law_2560 : decode cL_law 2560 = .ok (.iadd, 1) := by decide +kernel
theorem dL_law_2561 : decode cL_law 2561 = .ok (.iaload, 1) := by decide +kernel
theorem dL_law_2562 : decode cL_law 2562 = .ok (.invokevirtual 291, 3) := by decide +kernel
theorem dL_law_2565 : decode cL_law 2565 = .ok (.istore 6, 2) := by decide +kernel
theorem dL_law_2567 : decode cL_law 2567 = .ok (.aload_n 2, 1) := by decide +kernel
theorem dL_law_2568 : decode cL_law 2568 = .ok (.invokevirtual 160, 3) := by decide +kernel
theorem dL_law_2571 : decode cL_law 2571 = .ok (.iload 5, 2) := by decide +kernel
theorem dL_law_2573 : decode cL_law 2573 = .ok (.if_icmp .eq 5, 3) := by decide +kernel
theorem dL_law_2576 : decode cL_law 2576 = .ok (.iconst 0, 1) := by decide +kernel
theorem dL_law_2577 : decode cL_law 2577 = .ok (.ireturn, 1) := by decide +kernel
theorem dL_law_2578 : decode cL_law 2578 = .ok (.iload 5, 2) := by decide +kernel
theorem dL_law_2580 : decode cL_law 2580 = .ok (.ifCond .ne 15, 3) := by decide +kernel
theorem dL_law_2583 : decode cL_law 2583 = .ok (.aload_n 3, 1) := by decide +kernel
theorem dL_law_2584 : decode cL_law 2584 = .ok (.iconst 0, 1) := by decide +kernel
theorem dL_law_2585 : decode cL_law 2585 = .ok (.laload, 1) := by decide +kernel
theorem dL_law_2586 : decode cL_law 2586 = .ok (.iload 6, 2) := by decide +kernel
theorem dL_law_2588 : decode cL_law 2588 = .ok (.i2l, 1) := by decide +kernel
theorem dL_law_2589 : decode cL_law 2589 = .ok (.lcmp, 1) := by decide +kernel
theorem dL_law_2590 : decode cL_law 2590 = .ok (.ifCond .eq 5, 3) := by decide +kernel
theorem dL_law_2593 : decode cL_law 2593 = .ok (.iconst 0, 1) := by decide +kernel
theorem dL_law_2594 : decode cL_law 2594 = .ok (.ireturn, 1) := by decide +kernel
theorem dL_law_2595 : decode cL_law 2595 = .ok (.goto 552, 3) := by decide +kernel
theorem dL_law_2598 : decode cL_law 2598 = .ok (.aload_n 1, 1) := by decide +kernel
theorem dL_law_2599 : decode cL_law 2599 = .ok (.invokevirtual 292, 3) := by decide +kernel
theorem dL_law_2602 : decode cL_law 2602 = .ok (.aload_n 2, 1) := by decide +kernel
theorem dL_law_2603 : decode cL_law 2603 = .ok (.invokevirtual 295, 3) := by decide +kernel
theorem dL_law_2606 : decode cL_law 2606 = .ok (.if_icmp .eq 541, 3) := by decide +kernel
theorem dL_law_2609 : decode cL_law 2609 = .ok (.iconst 0, 1) := by decide +kernel
theorem dL_law_2610 : decode cL_law 2610 = .ok (.ireturn, 1) := by decide +kernel
theorem dL_law_2611 : decode cL_law 2611 = .ok (.aload_n 1, 1) := by decide +kernel
theorem dL_law_2612 : decode cL_law 2612 = .ok (.invokevirtual 296, 3) := by decide +kernel
theorem dL_law_2615 : decode cL_law 2615 = .ok (.aload_n 2, 1) := by decide +kernel
theorem dL_law_2616 : decode cL_law 2616 = .ok (.invokevirtual 299, 3) := by decide +kernel
theorem dL_law_2619 : decode cL_law 2619 = .ok (.if_icmp .eq 528, 3) := by decide +kernel
theorem dL_law_2622 : decode cL_law 2622 = .ok (.iconst 0, 1) := by decide +kernel
theorem dL_law_2623 : decode cL_law 2623 = .ok (.ireturn, 1) := by decide +kernel
theorem dL_law_2624 : decode cL_law 2624 = .ok (.aload_n 1, 1) := by decide +kernel
theorem dL_law_2625 : decode cL_law 2625 = .ok (.invokevirtual 300, 3) := by decide +kernel
theorem dL_law_2628 : decode cL_law 2628 = .ok (.aload_n 2, 1) := by decide +kernel
theorem dL_law_2629 : decode cL_law 2629 = .ok (.invokevirtual 303, 3) := by decide +kernel
theorem dL_law_2632 : decode cL_law 2632 = .ok (.if_icmp .eq 515, 3) := by decide +kernel
theorem dL_law_2635 : decode cL_law 2635 = .ok (.iconst 0, 1) := by decide +kernel
theorem dL_law_2636 : decode cL_law 2636 = .ok (.ireturn, 1) := by decide +kernel
theorem dL_law_2637 : decode cL_law 2637 = .ok (.aload_n 1, 1) := by decide +kernel
theorem dL_law_2638 : decode cL_law 2638 = .ok (.invokevirtual 304, 3) := by decide +kernel
theorem dL_law_2641 : decode cL_law 2641 = .ok (.aload_n 2, 1) := by decide +kernel
theorem dL_law_2642 : decode cL_law 2642 = .ok (.invokevirtual 307, 3) := by decide +kernel
theorem dL_law_2645 : decode cL_law 2645 = .ok (.if_icmp .eq 502, 3) := by decide +kernel
theorem dL_law_2648 : decode cL_law 2648 = .ok (.iconst 0, 1) := by decide +kernel
theorem dL_law_2649 : decode cL_law 2649 = .ok (.ireturn, 1) := by decide +kernel
theorem dL_law_2650 : decode cL_law 2650 = .ok (.aload_n 1, 1) := by decide +kernel
theorem dL_law_2651 : decode cL_law 2651 = .ok (.aload_n 3, 1) := by decide +kernel
theorem dL_law_2652 : decode cL_law 2652 = .ok (.invokestatic 308, 3) := by decide +kernel
theorem dL_law_2655 : decode cL_law 2655 = .ok (.istore 5, 2) := by decide +kernel
theorem dL_law_2657 : decode cL_law 2657 = .ok (.aload_n 2, 1) := by decide +kernel
theorem dL_law_2658 : decode cL_law 2658 = .ok (.invokevirtual 311, 3) := by decide +kernel
theorem dL_law_2661 : decode cL_law 2661 = .ok (.istore 6, 2) := by decide +kernel
theorem dL_law_2663 : decode cL_law 2663 = .ok (.aload_n 2, 1) := by decide +kernel
theorem dL_law_2664 : decode cL_law 2664 = .ok (.invokevirtual 160, 3) := by decide +kernel
theorem dL_law_2667 : decode cL_law 2667 = .ok (.iload 5, 2) := by decide +kernel
theorem dL_law_2669 : decode cL_law 2669 = .ok (.if_icmp .eq 5, 3) := by decide +kernel
theorem dL_law_2672 : decode cL_law 2672 = .ok (.iconst 0, 1) := by decide +kernel
theorem dL_law_2673 : decode cL_law 2673 = .ok (.ireturn, 1) := by decide +kernel
theorem dL_law_2674 : decode cL_law 2674 = .ok (.iload 5, 2) := by decide +kernel
theorem dL_law_2676 : decode cL_law 2676 = .ok (.ifCond .ne 15, 3) := by decide +kernel
theorem dL_law_2679 : decode cL_law 2679 = .ok (.aload_n 3, 1) := by decide +kernel
theorem dL_law_2680 : decode cL_law 2680 = .ok (.iconst 0, 1) := by decide +kernel
theorem dL_law_2681 : decode cL_law 2681 = .ok (.laload, 1) := by decide +kernel
theorem dL_law_2682 : decode cL_law 2682 = .ok (.iload 6, 2) := by decide +kernel
theorem dL_law_2684 : decode cL_law 2684 = .ok (.i2l, 1) := by decide +kernel
theorem dL_law_2685 : decode cL_law 2685 = .ok (.lcmp, 1) := by decide +kernel
theorem dL_law_2686 : decode cL_law 2686 = .ok (.ifCond .eq 5, 3) := by decide +kernel
theorem dL_law_2689 : decode cL_law 2689 = .ok (.iconst 0, 1) := by decide +kernel
theorem dL_law_2690 : decode cL_law 2690 = .ok (.ireturn, 1) := by decide +kernel
theorem dL_law_2691 : decode cL_law 2691 = .ok (.goto 456, 3) := by decide +kernel
theorem dL_law_2694 : decode cL_law 2694 = .ok (.aload_n 1, 1) := by decide +kernel
theorem dL_law_2695 : decode cL_law 2695 = .ok (.aload_n 0, 1) := by decide +kernel
theorem dL_law_2696 : decode cL_law 2696 = .ok (.iload 4, 2) := by decide +kernel
theorem dL_law_2698 : decode cL_law 2698 = .ok (.iconst 1, 1) := by decide +kernel
theorem dL_law_2699 : decode cL_law 2699 = .ok (.iadd, 1) := by decide +kernel
theorem dL_law_2700 : decode cL_law 2700 = .ok (.iaload, 1) := by decide +kernel
theorem dL_law_2701 : decode cL_law 2701 = .ok (.aload_n 0, 1) := by decide +kernel
theorem dL_law_2702 : decode cL_law 2702 = .ok (.iload 4, 2) := by decide +kernel
theorem dL_law_2704 : decode cL_law 2704 = .ok (.iconst 2, 1) := by decide +kernel
theorem dL_law_2705 : decode cL_law 2705 = .ok (.iadd, 1) := by decide +kernel
theorem dL_law_2706 : decode cL_law 2706 = .ok (.iaload, 1) := by decide +kernel
theorem dL_law_2707 : decode cL_law 2707 = .ok (.aload_n 3, 1) := by decide +kernel
theorem dL_law_2708 : decode cL_law 2708 = .ok (.invokestatic 312, 3) := by decide +kernel
theorem dL_law_2711 : decode cL_law 2711 = .ok (.istore 5, 2) := by decide +kernel
theorem dL_law_2713 : decode cL_law 2713 = .ok (.aload_n 2, 1) := by decide +kernel
theorem dL_law_2714 : decode cL_law 2714 = .ok (.aload_n 0, 1) := by decide +kernel
theorem dL_law_2715 : decode cL_law 2715 = .ok (.iload 4, 2) := by decide +kernel
theorem dL_law_2717 : decode cL_law 2717 = .ok (.iconst 1, 1) := by decide +kernel
theorem dL_law_2718 : decode cL_law 2718 = .ok (.iadd, 1) := by decide +kernel
theorem dL_law_2719 : decode cL_law 2719 = .ok (.iaload, 1) := by decide +kernel
theorem dL_law_2720 : decode cL_law 2720 = .ok (.aload_n 0, 1) := by decide +kernel
theorem dL_law_2721 : decode cL_law 2721 = .ok (.iload 4, 2) := by decide +kernel
theorem dL_law_2723 : decode cL_law 2723 = .ok (.iconst 2, 1) := by decide +kernel
theorem dL_law_2724 : decode cL_law 2724 = .ok (.iadd, 1) := by decide +kernel
theorem dL_law_2725 : decode cL_law 2725 = .ok (.iaload, 1) := by decide +kernel
theorem dL_law_2726 : decode cL_law 2726 = .ok (.invokevirtual 314, 3) := by decide +kernel
theorem dL_law_2729 : decode cL_law 2729 = .ok (.istore 6, 2) := by decide +kernel
theorem dL_law_2731 : decode cL_law 2731 = .ok (.aload_n 2, 1) := by decide +kernel
theorem dL_law_2732 : decode cL_law 2732 = .ok (.invokevirtual 160, 3) := by decide +kernel
theorem dL_law_2735 : decode cL_law 2735 = .ok (.iload 5, 2) := by decide +kernel
theorem dL_law_2737 : decode cL_law 2737 = .ok (.if_icmp .eq 5, 3) := by decide +kernel
theorem dL_law_2740 : decode cL_law 2740 = .ok (.iconst 0, 1) := by decide +kernel
theorem dL_law_2741 : decode cL_law 2741 = .ok (.ireturn, 1) := by decide +kernel
theorem dL_law_2742 : decode cL_law 2742 = .ok (.iload 5, 2) := by decide +kernel
theorem dL_law_2744 : decode cL_law 2744 = .ok (.ifCond .ne 15, 3) := by decide +kernel
theorem dL_law_2747 : decode cL_law 2747 = .ok (.aload_n 3, 1) := by decide +kernel
theorem dL_law_2748 : decode cL_law 2748 = .ok (.iconst 0, 1) := by decide +kernel
theorem dL_law_2749 : decode cL_law 2749 = .ok (.laload, 1) := by decide +kernel
theorem dL_law_2750 : decode cL_law 2750 = .ok (.iload 6, 2) := by decide +kernel
theorem dL_law_2752 : decode cL_law 2752 = .ok (.i2l, 1) := by decide +kernel
theorem dL_law_2753 : decode cL_law 2753 = .ok (.lcmp, 1) := by decide +kernel
theorem dL_law_2754 : decode cL_law 2754 = .ok (.ifCond .eq 5, 3) := by decide +kernel
theorem dL_law_2757 : decode cL_law 2757 = .ok (.iconst 0, 1) := by decide +kernel
theorem dL_law_2758 : decode cL_law 2758 = .ok (.ireturn, 1) := by decide +kernel
theorem dL_law_2759 : decode cL_law 2759 = .ok (.goto 388, 3) := by decide +kernel
theorem dL_law_2762 : decode cL_law 2762 = .ok (.aload_n 1, 1) := by decide +kernel
theorem dL_law_2763 : decode cL_law 2763 = .ok (.aload_n 0, 1) := by decide +kernel
theorem dL_law_2764 : decode cL_law 2764 = .ok (.iload 4, 2) := by decide +kernel
theorem dL_law_2766 : decode cL_law 2766 = .ok (.iconst 1, 1) := by decide +kernel
theorem dL_law_2767 : decode cL_law 2767 = .ok (.iadd, 1) := by decide +kernel
theorem dL_law_2768 : decode cL_law 2768 = .ok (.iaload, 1) := by decide +kernel
theorem dL_law_2769 : decode cL_law 2769 = .ok (.aload_n 0, 1) := by decide +kernel
theorem dL_law_2770 : decode cL_law 2770 = .ok (.iload 4, 2) := by decide +kernel
theorem dL_law_2772 : decode cL_law 2772 = .ok (.iconst 2, 1) := by decide +kernel
theorem dL_law_2773 : decode cL_law 2773 = .ok (.iadd, 1) := by decide +kernel
theorem dL_law_2774 : decode cL_law 2774 = .ok (.iaload, 1) := by decide +kernel
theorem dL_law_2775 : decode cL_law 2775 = .ok (.aload_n 3, 1) := by decide +kernel
theorem dL_law_2776 : decode cL_law 2776 = .ok (.invokestatic 315, 3) := by decide +kernel
theorem dL_law_2779 : decode cL_law 2779 = .ok (.istore 5, 2) := by decide +kernel
theorem dL_law_2781 : decode cL_law 2781 = .ok (.aload_n 2, 1) := by decide +kernel
theorem dL_law_2782 : decode cL_law 2782 = .ok (.aload_n 0, 1) := by decide +kernel
theorem dL_law_2783 : decode cL_law 2783 = .ok (.iload 4, 2) := by decide +kernel
theorem dL_law_2785 : decode cL_law 2785 = .ok (.iconst 1, 1) := by decide +kernel
theorem dL_law_2786 : decode cL_law 2786 = .ok (.iadd, 1) := by decide +kernel
theorem dL_law_2787 : decode cL_law 2787 = .ok (.iaload, 1) := by decide +kernel
theorem dL_law_2788 : decode cL_law 2788 = .ok (.aload_n 0, 1) := by decide +kernel
theorem dL_law_2789 : decode cL_law 2789 = .ok (.iload 4, 2) := by decide +kernel
theorem dL_law_2791 : decode cL_law 2791 = .ok (.iconst 2, 1) := by decide +kernel
theorem dL_law_2792 : decode cL_law 2792 = .ok (.iadd, 1) := by decide +kernel
theorem dL_law_2793 : decode cL_law 2793 = .ok (.iaload, 1) := by decide +kernel
theorem dL_law_2794 : decode cL_law 2794 = .ok (.invokevirtual 317, 3) := by decide +kernel
theorem dL_law_2797 : decode cL_law 2797 = .ok (.istore 6, 2) := by decide +kernel
theorem dL_law_2799 : decode cL_law 2799 = .ok (.aload_n 2, 1) := by decide +kernel
theorem dL_law_2800 : decode cL_law 2800 = .ok (.invokevirtual 160, 3) := by decide +kernel
theorem dL_law_2803 : decode cL_law 2803 = .ok (.iload 5, 2) := by decide +kernel
theorem dL_law_2805 : decode cL_law 2805 = .ok (.if_icmp .eq 5, 3) := by decide +kernel
theorem dL_law_2808 : decode cL_law 2808 = .ok (.iconst 0, 1) := by decide +kernel
theorem dL_law_2809 : decode cL_law 2809 = .ok (.ireturn, 1) := by decide +kernel
theorem dL_law_2810 : decode cL_law 2810 = .ok (.iload 5, 2) := by decide +kernel
theorem dL_law_2812 : decode cL_law 2812 = .ok (.ifCond .ne 15, 3) := by decide +kernel
theorem dL_law_2815 : decode cL_law 2815 = .ok (.aload_n 3, 1) := by decide +kernel
theorem dL_law_2816 : decode cL_law 2816 = .ok (.iconst 0, 1) := by decide +kernel
theorem dL_law_2817 : decode cL_law 2817 = .ok (.laload, 1) := by decide +kernel
theorem dL_law_2818 : decode cL_law 2818 = .ok (.iload 6, 2) := by decide +kernel
theorem dL_law_2820 : decode cL_law 2820 = .ok (.i2l, 1) := by decide +kernel
theorem dL_law_2821 : decode cL_law 2821 = .ok (.lcmp, 1) := by decide +kernel
theorem dL_law_2822 : decode cL_law 2822 = .ok (.ifCond .eq 5, 3) := by decide +kernel
theorem dL_law_2825 : decode cL_law 2825 = .ok (.iconst 0, 1) := by decide +kernel
theorem dL_law_2826 : decode cL_law 2826 = .ok (.ireturn, 1) := by decide +kernel
theorem dL_law_2827 : decode cL_law 2827 = .ok (.goto 320, 3) := by decide +kernel
theorem dL_law_2830 : decode cL_law 2830 = .ok (.aload_n 1, 1) := by decide +kernel
theorem dL_law_2831 : decode cL_law 2831 = .ok (.invokevirtual 318, 3) := by decide +kernel
theorem dL_law_2834 : decode cL_law 2834 = .ok (.aload_n 2, 1) := by decide +kernel
theorem dL_law_2835 : decode cL_law 2835 = .ok (.invokevirtual 321, 3) := by decide +kernel
theorem dL_law_2838 : decode cL_law 2838 = .ok (.if_icmp .eq 309, 3) := by decide +kernel
theorem dL_law_2841 : decode cL_law 2841 = .ok (.iconst 0, 1) := by decide +kernel
theorem dL_law_2842 : decode cL_law 2842 = .ok (.ireturn, 1) := by decide +kernel
theorem dL_law_2843 : decode cL_law 2843 = .ok (.aload_n 1, 1) := by decide +kernel
theorem dL_law_2844 : decode cL_law 2844 = .ok (.invokevirtual 322, 3) := by decide +kernel
theorem dL_law_2847 : decode cL_law 2847 = .ok (.aload_n 2, 1) := by decide +kernel
theorem dL_law_2848 : decode cL_law 2848 = .ok (.invokevirtual 325, 3) := by decide +kernel
theorem dL_law_2851 : decode cL_law 2851 = .ok (.if_icmp .eq 296, 3) := by decide +kernel
theorem dL_law_2854 : decode cL_law 2854 = .ok (.iconst 0, 1) := by decide +kernel
theorem dL_law_2855 : decode cL_law 2855 = .ok (.ireturn, 1) := by decide +kernel
theorem dL_law_2856 : decode cL_law 2856 = .ok (.aload_n 1, 1) := by decide +kernel
theorem dL_law_2857 : decode cL_law 2857 = .ok (.aload_n 0, 1) := by decide +kernel
theorem dL_law_2858 : decode cL_law 2858 = .ok (.iload 4, 2) := by decide +kernel
theorem dL_law_2860 : decode cL_law 2860 = .ok (.iconst 1, 1) := by decide +kernel
theorem dL_law_2861 : decode cL_law 2861 = .ok (.iadd, 1) := by decide +kernel
theorem dL_law_2862 : decode cL_law 2862 = .ok (.iaload, 1) := by decide +kernel
theorem dL_law_2863 : decode cL_law 2863 = .ok (.aload_n 0, 1) := by decide +kernel
theorem dL_law_2864 : decode cL_law 2864 = .ok (.iload 4, 2) := by decide +kernel
theorem dL_law_2866 : decode cL_law 2866 = .ok (.iconst 2, 1) := by decide +kernel
theorem dL_law_2867 : decode cL_law 2867 = .ok (.iadd, 1) := by decide +kernel
theorem dL_law_2868 : decode cL_law 2868 = .ok (.iaload, 1) := by decide +kernel
theorem dL_law_2869 : decode cL_law 2869 = .ok (.aload_n 3, 1) := by decide +kernel
theorem dL_law_2870 : decode cL_law 2870 = .ok (.invokestatic 326, 3) := by decide +kernel
theorem dL_law_2873 : decode cL_law 2873 = .ok (.istore 5, 2) := by decide +kernel
theorem dL_law_2875 : decode cL_law 2875 = .ok (.aload_n 2, 1) := by decide +kernel
theorem dL_law_2876 : decode cL_law 2876 = .ok (.aload_n 0, 1) := by decide +kernel
theorem dL_law_2877 : decode cL_law 2877 = .ok (.iload 4, 2) := by decide +kernel
theorem dL_law_2879 : decode cL_law 2879 = .ok (.iconst 1, 1) := by decide +kernel
theorem dL_law_2880 : decode cL_law 2880 = .ok (.iadd, 1) := by decide +kernel
theorem dL_law_2881 : decode cL_law 2881 = .ok (.iaload, 1) := by decide +kernel
theorem dL_law_2882 : decode cL_law 2882 = .ok (.aload_n 0, 1) := by decide +kernel
theorem dL_law_2883 : decode cL_law 2883 = .ok (.iload 4, 2) := by decide +kernel
theorem dL_law_2885 : decode cL_law 2885 = .ok (.iconst 2, 1) := by decide +kernel
theorem dL_law_2886 : decode cL_law 2886 = .ok (.iadd, 1) := by decide +kernel
theorem dL_law_2887 : decode cL_law 2887 = .ok (.iaload, 1) := by decide +kernel
theorem dL_law_2888 : decode cL_law 2888 = .ok (.invokevirtual 328, 3) := by decide +kernel
theorem dL_law_2891 : decode cL_law 2891 = .ok (.istore 6, 2) := by decide +kernel
theorem dL_law_2893 : decode cL_law 2893 = .ok (.aload_n 2, 1) := by decide +kernel
theorem dL_law_2894 : decode cL_law 2894 = .ok (.invokevirtual 160, 3) := by decide +kernel
theorem dL_law_2897 : decode cL_law 2897 = .ok (.iload 5, 2) := by decide +kernel
theorem dL_law_2899 : decode cL_law 2899 = .ok (.if_icmp .eq 5, 3) := by decide +kernel
theorem dL_law_2902 : decode cL_law 2902 = .ok (.iconst 0, 1) := by decide +kernel
theorem dL_law_2903 : decode cL_law 2903 = .ok (.ireturn, 1) := by decide +kernel
theorem dL_law_2904 : decode cL_law 2904 = .ok (.iload 5, 2) := by decide +kernel
theorem dL_law_2906 : decode cL_law 2906 = .ok (.ifCond .ne 15, 3) := by decide +kernel
theorem dL_law_2909 : decode cL_law 2909 = .ok (.aload_n 3, 1) := by decide +kernel
theorem dL_law_2910 : decode cL_law 2910 = .ok (.iconst 0, 1) := by decide +kernel
theorem dL_law_2911 : decode cL_law 2911 = .ok (.laload, 1) := by decide +kernel
theorem dL_law_2912 : decode cL_law 2912 = .ok (.iload 6, 2) := by decide +kernel
theorem dL_law_2914 : decode cL_law 2914 = .ok (.i2l, 1) := by decide +kernel
theorem dL_law_2915 : decode cL_law 2915 = .ok (.lcmp, 1) := by decide +kernel
theorem dL_law_2916 : decode cL_law 2916 = .ok (.ifCond .eq 5, 3) := by decide +kernel
theorem dL_law_2919 : decode cL_law 2919 = .ok (.iconst 0, 1) := by decide +kernel
theorem dL_law_2920 : decode cL_law 2920 = .ok (.ireturn, 1) := by decide +kernel
theorem dL_law_2921 : decode cL_law 2921 = .ok (.goto 226, 3) := by decide +kernel
theorem dL_law_2924 : decode cL_law 2924 = .ok (.aload_n 1, 1) := by decide +kernel
theorem dL_law_2925 : decode cL_law 2925 = .ok (.aload_n 0, 1) := by decide +kernel
theorem dL_law_2926 : decode cL_law 2926 = .ok (.iload 4, 2) := by decide +kernel
theorem dL_law_2928 : decode cL_law 2928 = .ok (.iconst 1, 1) := by decide +kernel
theorem dL_law_2929 : decode cL_law 2929 = .ok (.iadd, 1) := by decide +kernel
theorem dL_law_2930 : decode cL_law 2930 = .ok (.iaload, 1) := by decide +kernel
theorem dL_law_2931 : decode cL_law 2931 = .ok (.aload_n 3, 1) := by decide +kernel
theorem dL_law_2932 : decode cL_law 2932 = .ok (.invokestatic 329, 3) := by decide +kernel
theorem dL_law_2935 : decode cL_law 2935 = .ok (.istore 5, 2) := by decide +kernel
theorem dL_law_2937 : decode cL_law 2937 = .ok (.aload_n 2, 1) := by decide +kernel
theorem dL_law_2938 : decode cL_law 2938 = .ok (.aload_n 0, 1) := by decide +kernel
theorem dL_law_2939 : decode cL_law 2939 = .ok (.iload 4, 2) := by decide +kernel
theorem dL_law_2941 : decode cL_law 2941 = .ok (.iconst 1, 1) := by decide +kernel
theorem dL_law_2942 : decode cL_law 2942 = .ok (.iadd, 1) := by decide +kernel
theorem dL_law_2943 : decode cL_law 2943 = .ok (.iaload, 1) := by decide +kernel
theorem dL_law_2944 : decode cL_law 2944 = .ok (.invokevirtual 331, 3) := by decide +kernel
theorem dL_law_2947 : decode cL_law 2947 = .ok (.istore 6, 2) := by decide +kernel
theorem dL_law_2949 : decode cL_law 2949 = .ok (.aload_n 2, 1) := by decide +kernel
theorem dL_law_2950 : decode cL_law 2950 = .ok (.invokevirtual 160, 3) := by decide +kernel
theorem dL_law_2953 : decode cL_law 2953 = .ok (.iload 5, 2) := by decide +kernel
theorem dL_law_2955 : decode cL_law 2955 = .ok (.if_icmp .eq 5, 3) := by decide +kernel
theorem dL_law_2958 : decode cL_law 2958 = .ok (.iconst 0, 1) := by decide +kernel
theorem dL_law_2959 : decode cL_law 2959 = .ok (.ireturn, 1) := by decide +kernel
theorem dL_law_2960 : decode cL_law 2960 = .ok (.iload 5, 2) := by decide +kernel
theorem dL_law_2962 : decode cL_law 2962 = .ok (.ifCond .ne 15, 3) := by decide +kernel
theorem dL_law_2965 : decode cL_law 2965 = .ok (.aload_n 3, 1) := by decide +kernel
theorem dL_law_2966 : decode cL_law 2966 = .ok (.iconst 0, 1) := by decide +kernel
theorem dL_law_2967 : decode cL_law 2967 = .ok (.laload, 1) := by decide +kernel
theorem dL_law_2968 : decode cL_law 2968 = .ok (.iload 6, 2) := by decide +kernel
theorem dL_law_2970 : decode cL_law 2970 = .ok (.i2l, 1) := by decide +kernel
theorem dL_law_2971 : decode cL_law 2971 = .ok (.lcmp, 1) := by decide +kernel
theorem dL_law_2972 : decode cL_law 2972 = .ok (.ifCond .eq 5, 3) := by decide +kernel
theorem dL_law_2975 : decode cL_law 2975 = .ok (.iconst 0, 1) := by decide +kernel
theorem dL_law_2976 : decode cL_law 2976 = .ok (.ireturn, 1) := by decide +kernel
theorem dL_law_2977 : decode cL_law 2977 = .ok (.goto 170, 3) := by decide +kernel
theorem dL_law_2980 : decode cL_law 2980 = .ok (.aload_n 1, 1) := by decide +kernel
theorem dL_law_2981 : decode cL_law 2981 = .ok (.aload_n 0, 1) := by decide +kernel
theorem dL_law_2982 : decode cL_law 2982 = .ok (.iload 4, 2) := by decide +kernel
theorem dL_law_2984 : decode cL_law 2984 = .ok (.iconst 1, 1) := by decide +kernel
theorem dL_law_2985 : decode cL_law 2985 = .ok (.iadd, 1) := by decide +kernel
theorem dL_law_2986 : decode cL_law 2986 = .ok (.iaload, 1) := by decide +kernel
theorem dL_law_2987 : decode cL_law 2987 = .ok (.aload_n 3, 1) := by decide +kernel
theorem dL_law_2988 : decode cL_law 2988 = .ok (.invokestatic 332, 3) := by decide +kernel
theorem dL_law_2991 : decode cL_law 2991 = .ok (.istore 5, 2) := by decide +kernel
theorem dL_law_2993 : decode cL_law 2993 = .ok (.aload_n 2, 1) := by decide +kernel
theorem dL_law_2994 : decode cL_law 2994 = .ok (.aload_n 0, 1) := by decide +kernel
theorem dL_law_2995 : decode cL_law 2995 = .ok (.iload 4, 2) := by decide +kernel
theorem dL_law_2997 : decode cL_law 2997 = .ok (.iconst 1, 1) := by decide +kernel
theorem dL_law_2998 : decode cL_law 2998 = .ok (.iadd, 1) := by decide +kernel
theorem dL_law_2999 : decode cL_law 2999 = .ok (.iaload, 1) := by decide +kernel
theorem dL_law_3000 : decode cL_law 3000 = .ok (.invokevirtual 334, 3) := by decide +kernel
theorem dL_law_3003 : decode cL_law 3003 = .ok (.istore 6, 2) := by decide +kernel
theorem dL_law_3005 : decode cL_law 3005 = .ok (.aload_n 2, 1) := by decide +kernel
theorem dL_law_3006 : decode cL_law 3006 = .ok (.invokevirtual 160, 3) := by decide +kernel
theorem dL_law_3009 : decode cL_law 3009 = .ok (.iload 5, 2) := by decide +kernel
theorem dL_law_3011 : decode cL_law 3011 = .ok (.if_icmp .eq 5, 3) := by decide +kernel
theorem dL_law_3014 : decode cL_law 3014 = .ok (.iconst 0, 1) := by decide +kernel
theorem dL_law_3015 : decode cL_law 3015 = .ok (.ireturn, 1) := by decide +kernel
theorem dL_law_3016 : decode cL_law 3016 = .ok (.iload 5, 2) := by decide +kernel
theorem dL_law_3018 : decode cL_law 3018 = .ok (.ifCond .ne 15, 3) := by decide +kernel
theorem dL_law_3021 : decode cL_law 3021 = .ok (.aload_n 3, 1) := by decide +kernel
theorem dL_law_3022 : decode cL_law 3022 = .ok (.iconst 0, 1) := by decide +kernel
theorem dL_law_3023 : decode cL_law 3023 = .ok (.laload, 1) := by decide +kernel
theorem dL_law_3024 : decode cL_law 3024 = .ok (.iload 6, 2) := by decide +kernel
theorem dL_law_3026 : decode cL_law 3026 = .ok (.i2l, 1) := by decide +kernel
theorem dL_law_3027 : decode cL_law 3027 = .ok (.lcmp, 1) := by decide +kernel
theorem dL_law_3028 : decode cL_law 3028 = .ok (.ifCond .eq 5, 3) := by decide +kernel
theorem dL_law_3031 : decode cL_law 3031 = .ok (.iconst 0, 1) := by decide +kernel
theorem dL_law_3032 : decode cL_law 3032 = .ok (.ireturn, 1) := by decide +kernel
theorem dL_law_3033 : decode cL_law 3033 = .ok (.goto 114, 3) := by decide +kernel
theorem dL_law_3036 : decode cL_law 3036 = .ok (.aload_n 1, 1) := by decide +kernel
theorem dL_law_3037 : decode cL_law 3037 = .ok (.invokevirtual 335, 3) := by decide +kernel
theorem dL_law_3040 : decode cL_law 3040 = .ok (.aload_n 2, 1) := by decide +kernel
theorem dL_law_3041 : decode cL_law 3041 = .ok (.invokevirtual 338, 3) := by decide +kernel
theorem dL_law_3044 : decode cL_law 3044 = .ok (.if_icmp .eq 103, 3) := by decide +kernel
theorem dL_law_3047 : decode cL_law 3047 = .ok (.iconst 0, 1) := by decide +kernel
theorem dL_law_3048 : decode cL_law 3048 = .ok (.ireturn, 1) := by decide +kernel
theorem dL_law_3049 : decode cL_law 3049 = .ok (.aload_n 1, 1) := by decide +kernel
theorem dL_law_3050 : decode cL_law 3050 = .ok (.invokevirtual 339, 3) := by decide +kernel
theorem dL_law_3053 : decode cL_law 3053 = .ok (.aload_n 2, 1) := by decide +kernel
theorem dL_law_3054 : decode cL_law 3054 = .ok (.invokevirtual 342, 3) := by decide +kernel
theorem dL_law_3057 : decode cL_law 3057 = .ok (.if_icmp .eq 90, 3) := by decide +kernel
theorem dL_law_3060 : decode cL_law 3060 = .ok (.iconst 0, 1) := by decide +kernel
theorem dL_law_3061 : decode cL_law 3061 = .ok (.ireturn, 1) := by decide +kernel
theorem dL_law_3062 : decode cL_law 3062 = .ok (.aload_n 1, 1) := by decide +kernel
theorem dL_law_3063 : decode cL_law 3063 = .ok (.invokevirtual 343, 3) := by decide +kernel
theorem dL_law_3066 : decode cL_law 3066 = .ok (.aload_n 2, 1) := by decide +kernel
theorem dL_law_3067 : decode cL_law 3067 = .ok (.invokevirtual 346, 3) := by decide +kernel
theorem dL_law_3070 : decode cL_law 3070 = .ok (.if_icmp .eq 77, 3) := by decide +kernel
theorem dL_law_3073 : decode cL_law 3073 = .ok (.iconst 0, 1) := by decide +kernel
theorem dL_law_3074 : decode cL_law 3074 = .ok (.ireturn, 1) := by decide +kernel
theorem dL_law_3075 : decode cL_law 3075 = .ok (.aload_n 1, 1) := by decide +kernel
theorem dL_law_3076 : decode cL_law 3076 = .ok (.aload_n 0, 1) := by decide +kernel
theorem dL_law_3077 : decode cL_law 3077 = .ok (.iload 4, 2) := by decide +kernel
theorem dL_law_3079 : decode cL_law 3079 = .ok (.iconst 1, 1) := by decide +kernel
theorem dL_law_3080 : decode cL_law 3080 = .ok (.iadd, 1) := by decide +kernel
theorem dL_law_3081 : decode cL_law 3081 = .ok (.iaload, 1) := by decide +kernel
theorem dL_law_3082 : decode cL_law 3082 = .ok (.invokestatic 347, 3) := by decide +kernel
theorem dL_law_3085 : decode cL_law 3085 = .ok (.istore 5, 2) := by decide +kernel
theorem dL_law_3087 : decode cL_law 3087 = .ok (.aload_n 2, 1) := by decide +kernel
theorem dL_law_3088 : decode cL_law 3088 = .ok (.aload_n 0, 1) := by decide +kernel
theorem dL_law_3089 : decode cL_law 3089 = .ok (.iload 4, 2) := by decide +kernel
theorem dL_law_3091 : decode cL_law 3091 = .ok (.iconst 1, 1) := by decide +kernel
theorem dL_law_3092 : decode cL_law 3092 = .ok (.iadd, 1) := by decide +kernel
theorem dL_law_3093 : decode cL_law 3093 = .ok (.iaload, 1) := by decide +kernel
theorem dL_law_3094 : decode cL_law 3094 = .ok (.invokevirtual 350, 3) := by decide +kernel
theorem dL_law_3097 : decode cL_law 3097 = .ok (.aload_n 2, 1) := by decide +kernel
theorem dL_law_3098 : decode cL_law 3098 = .ok (.invokevirtual 160, 3) := by decide +kernel
theorem dL_law_3101 : decode cL_law 3101 = .ok (.iload 5, 2) := by decide +kernel
theorem dL_law_3103 : decode cL_law 3103 = .ok (.if_icmp .eq 5, 3) := by decide +kernel
theorem dL_law_3106 : decode cL_law 3106 = .ok (.iconst 0, 1) := by decide +kernel
theorem dL_law_3107 : decode cL_law 3107 = .ok (.ireturn, 1) := by decide +kernel
theorem dL_law_3108 : decode cL_law 3108 = .ok (.goto 39, 3) := by decide +kernel
theorem dL_law_3111 : decode cL_law 3111 = .ok (.aload_n 1, 1) := by decide +kernel
theorem dL_law_3112 : decode cL_law 3112 = .ok (.aload_n 0, 1) := by decide +kernel
theorem dL_law_3113 : decode cL_law 3113 = .ok (.iload 4, 2) := by decide +kernel
theorem dL_law_3115 : decode cL_law 3115 = .ok (.iconst 1, 1) := by decide +kernel
theorem dL_law_3116 : decode cL_law 3116 = .ok (.iadd, 1) := by decide +kernel
theorem dL_law_3117 : decode cL_law 3117 = .ok (.iaload, 1) := by decide +kernel
theorem dL_law_3118 : decode cL_law 3118 = .ok (.invokestatic 351, 3) := by decide +kernel
theorem dL_law_3121 : decode cL_law 3121 = .ok (.istore 5, 2) := by decide +kernel
theorem dL_law_3123 : decode cL_law 3123 = .ok (.aload_n 2, 1) := by decide +kernel
theorem dL_law_3124 : decode cL_law 3124 = .ok (.aload_n 0, 1) := by decide +kernel
theorem dL_law_3125 : decode cL_law 3125 = .ok (.iload 4, 2) := by decide +kernel
theorem dL_law_3127 : decode cL_law 3127 = .ok (.iconst 1, 1) := by decide +kernel
theorem dL_law_3128 : decode cL_law 3128 = .ok (.iadd, 1) := by decide +kernel
theorem dL_law_3129 : decode cL_law 3129 = .ok (.iaload, 1) := by decide +kernel
theorem dL_law_3130 : decode cL_law 3130 = .ok (.invokevirtual 353, 3) := by decide +kernel
theorem dL_law_3133 : decode cL_law 3133 = .ok (.aload_n 2, 1) := by decide +kernel
theorem dL_law_3134 : decode cL_law 3134 = .ok (.invokevirtual 160, 3) := by decide +kernel
theorem dL_law_3137 : decode cL_law 3137 = .ok (.iload 5, 2) := by decide +kernel
theorem dL_law_3139 : decode cL_law 3139 = .ok (.if_icmp .eq 5, 3) := by decide +kernel
theorem dL_law_3142 : decode cL_law 3142 = .ok (.iconst 0, 1) := by decide +kernel
theorem dL_law_3143 : decode cL_law 3143 = .ok (.ireturn, 1) := by decide +kernel
theorem dL_law_3144 : decode cL_law 3144 = .ok (.goto 3, 3) := by decide +kernel
theorem dL_law_3147 : decode cL_law 3147 = .ok (.iinc 4 5, 3) := by decide +kernel
theorem dL_law_3150 : decode cL_law 3150 = .ok (.goto (-3127), 3) := by decide +kernel
theorem dL_law_3153 : decode cL_law 3153 = .ok (.iconst 1, 1) := by decide +kernel
theorem dL_law_3154 : decode cL_law 3154 = .ok (.ireturn, 1) := by decide +kernel
