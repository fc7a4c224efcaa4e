/-! THE LAW'S INSTRUCTIONS, SECOND HALF -/
theorem dW_1701 : decode code 1701 = .ok (.iload 6, 2) := by decide +kernel
theorem dW_1703 : decode code 1703 = .ok (.if_icmp .eq 5, 3) := by decide +kernel
theorem dW_1706 : decode code 1706 = .ok (.iconst 0, 1) := by decide +kernel
theorem dW_1707 : decode code 1707 = .ok (.ireturn, 1) := by decide +kernel
theorem dW_1708 : decode code 1708 = .ok (.iload 6, 2) := by decide +kernel
theorem dW_1710 : decode code 1710 = .ok (.ifCond .ne 15, 3) := by decide +kernel
theorem dW_1713 : decode code 1713 = .ok (.aload_n 3, 1) := by decide +kernel
theorem dW_1714 : decode code 1714 = .ok (.iconst 0, 1) := by decide +kernel
theorem dW_1715 : decode code 1715 = .ok (.laload, 1) := by decide +kernel
theorem dW_1716 : decode code 1716 = .ok (.iload 7, 2) := by decide +kernel
theorem dW_1718 : decode code 1718 = .ok (.i2l, 1) := by decide +kernel
theorem dW_1719 : decode code 1719 = .ok (.lcmp, 1) := by decide +kernel
theorem dW_1720 : decode code 1720 = .ok (.ifCond .eq 5, 3) := by decide +kernel
theorem dW_1723 : decode code 1723 = .ok (.iconst 0, 1) := by decide +kernel
theorem dW_1724 : decode code 1724 = .ok (.ireturn, 1) := by decide +kernel
theorem dW_1725 : decode code 1725 = .ok (.goto 1498, 3) := by decide +kernel
theorem dW_1728 : decode code 1728 = .ok (.aload_n 1, 1) := by decide +kernel
theorem dW_1729 : decode code 1729 = .ok (.invokevirtual 256, 3) := by decide +kernel
theorem dW_1732 : decode code 1732 = .ok (.aload_n 2, 1) := by decide +kernel
theorem dW_1733 : decode code 1733 = .ok (.invokevirtual 259, 3) := by decide +kernel
theorem dW_1736 : decode code 1736 = .ok (.if_icmp .eq 1487, 3) := by decide +kernel
theorem dW_1739 : decode code 1739 = .ok (.iconst 0, 1) := by decide +kernel
theorem dW_1740 : decode code 1740 = .ok (.ireturn, 1) := by decide +kernel
theorem dW_1741 : decode code 1741 = .ok (.aload_n 1, 1) := by decide +kernel
theorem dW_1742 : decode code 1742 = .ok (.invokevirtual 260, 3) := by decide +kernel
theorem dW_1745 : decode code 1745 = .ok (.aload_n 2, 1) := by decide +kernel
theorem dW_1746 : decode code 1746 = .ok (.invokevirtual 263, 3) := by decide +kernel
theorem dW_1749 : decode code 1749 = .ok (.if_icmp .eq 1474, 3) := by decide +kernel
theorem dW_1752 : decode code 1752 = .ok (.iconst 0, 1) := by decide +kernel
theorem dW_1753 : decode code 1753 = .ok (.ireturn, 1) := by decide +kernel
theorem dW_1754 : decode code 1754 = .ok (.aload_n 1, 1) := by decide +kernel
theorem dW_1755 : decode code 1755 = .ok (.invokevirtual 264, 3) := by decide +kernel
theorem dW_1758 : decode code 1758 = .ok (.aload_n 2, 1) := by decide +kernel
theorem dW_1759 : decode code 1759 = .ok (.invokevirtual 267, 3) := by decide +kernel
theorem dW_1762 : decode code 1762 = .ok (.if_icmp .eq 1461, 3) := by decide +kernel
theorem dW_1765 : decode code 1765 = .ok (.iconst 0, 1) := by decide +kernel
theorem dW_1766 : decode code 1766 = .ok (.ireturn, 1) := by decide +kernel
theorem dW_1767 : decode code 1767 = .ok (.aload_n 1, 1) := by decide +kernel
theorem dW_1768 : decode code 1768 = .ok (.invokevirtual 268, 3) := by decide +kernel
theorem dW_1771 : decode code 1771 = .ok (.aload_n 2, 1) := by decide +kernel
theorem dW_1772 : decode code 1772 = .ok (.invokevirtual 271, 3) := by decide +kernel
theorem dW_1775 : decode code 1775 = .ok (.if_icmp .eq 1448, 3) := by decide +kernel
theorem dW_1778 : decode code 1778 = .ok (.iconst 0, 1) := by decide +kernel
theorem dW_1779 : decode code 1779 = .ok (.ireturn, 1) := by decide +kernel
theorem dW_1780 : decode code 1780 = .ok (.aload_n 1, 1) := by decide +kernel
theorem dW_1781 : decode code 1781 = .ok (.invokevirtual 272, 3) := by decide +kernel
theorem dW_1784 : decode code 1784 = .ok (.aload_n 2, 1) := by decide +kernel
theorem dW_1785 : decode code 1785 = .ok (.invokevirtual 275, 3) := by decide +kernel
theorem dW_1788 : decode code 1788 = .ok (.if_icmp .eq 1435, 3) := by decide +kernel
theorem dW_1791 : decode code 1791 = .ok (.iconst 0, 1) := by decide +kernel
theorem dW_1792 : decode code 1792 = .ok (.ireturn, 1) := by decide +kernel
theorem dW_1793 : decode code 1793 = .ok (.aload_n 1, 1) := by decide +kernel
theorem dW_1794 : decode code 1794 = .ok (.invokevirtual 276, 3) := by decide +kernel
theorem dW_1797 : decode code 1797 = .ok (.aload_n 2, 1) := by decide +kernel
theorem dW_1798 : decode code 1798 = .ok (.invokevirtual 279, 3) := by decide +kernel
theorem dW_1801 : decode code 1801 = .ok (.if_icmp .eq 1422, 3) := by decide +kernel
theorem dW_1804 : decode code 1804 = .ok (.iconst 0, 1) := by decide +kernel
theorem dW_1805 : decode code 1805 = .ok (.ireturn, 1) := by decide +kernel
theorem dW_1806 : decode code 1806 = .ok (.aload_n 1, 1) := by decide +kernel
theorem dW_1807 : decode code 1807 = .ok (.invokevirtual 280, 3) := by decide +kernel
theorem dW_1810 : decode code 1810 = .ok (.aload_n 2, 1) := by decide +kernel
theorem dW_1811 : decode code 1811 = .ok (.invokevirtual 283, 3) := by decide +kernel
theorem dW_1814 : decode code 1814 = .ok (.if_icmp .eq 1409, 3) := by decide +kernel
theorem dW_1817 : decode code 1817 = .ok (.iconst 0, 1) := by decide +kernel
theorem dW_1818 : decode code 1818 = .ok (.ireturn, 1) := by decide +kernel
theorem dW_1819 : decode code 1819 = .ok (.aload_n 1, 1) := by decide +kernel
theorem dW_1820 : decode code 1820 = .ok (.invokevirtual 284, 3) := by decide +kernel
theorem dW_1823 : decode code 1823 = .ok (.aload_n 2, 1) := by decide +kernel
theorem dW_1824 : decode code 1824 = .ok (.invokevirtual 287, 3) := by decide +kernel
theorem dW_1827 : decode code 1827 = .ok (.if_icmp .eq 1396, 3) := by decide +kernel
theorem dW_1830 : decode code 1830 = .ok (.iconst 0, 1) := by decide +kernel
theorem dW_1831 : decode code 1831 = .ok (.ireturn, 1) := by decide +kernel
theorem dW_1832 : decode code 1832 = .ok (.aload_n 1, 1) := by decide +kernel
theorem dW_1833 : decode code 1833 = .ok (.aload_n 0, 1) := by decide +kernel
theorem dW_1834 : decode code 1834 = .ok (.iload 5, 2) := by decide +kernel
theorem dW_1836 : decode code 1836 = .ok (.iconst 1, 1) := by decide +kernel
theorem dW_1837 : decode code 1837 = .ok (.iadd, 1) := by decide +kernel
theorem dW_1838 : decode code 1838 = .ok (.iaload, 1) := by decide +kernel
theorem dW_1839 : decode code 1839 = .ok (.aload_n 3, 1) := by decide +kernel
theorem dW_1840 : decode code 1840 = .ok (.invokestatic 288, 3) := by decide +kernel
theorem dW_1843 : decode code 1843 = .ok (.istore 6, 2) := by decide +kernel
theorem dW_1845 : decode code 1845 = .ok (.aload_n 2, 1) := by decide +kernel
theorem dW_1846 : decode code 1846 = .ok (.aload_n 0, 1) := by decide +kernel
theorem dW_1847 : decode code 1847 = .ok (.iload 5, 2) := by decide +kernel
theorem dW_1849 : decode code 1849 = .ok (.iconst 1, 1) := by decide +kernel
theorem dW_1850 : decode code 1850 = .ok (.iadd, 1) := by decide +kernel
theorem dW_1851 : decode code 1851 = .ok (.iaload, 1) := by decide +kernel
theorem dW_1852 : decode code 1852 = .ok (.invokevirtual 290, 3) := by decide +kernel
theorem dW_1855 : decode code 1855 = .ok (.istore 7, 2) := by decide +kernel
theorem dW_1857 : decode code 1857 = .ok (.aload_n 2, 1) := by decide +kernel
theorem dW_1858 : decode code 1858 = .ok (.invokevirtual 157, 3) := by decide +kernel
theorem dW_1861 : decode code 1861 = .ok (.iload 6, 2) := by decide +kernel
theorem dW_1863 : decode code 1863 = .ok (.if_icmp .eq 5, 3) := by decide +kernel
theorem dW_1866 : decode code 1866 = .ok (.iconst 0, 1) := by decide +kernel
theorem dW_1867 : decode code 1867 = .ok (.ireturn, 1) := by decide +kernel
theorem dW_1868 : decode code 1868 = .ok (.iload 6, 2) := by decide +kernel
theorem dW_1870 : decode code 1870 = .ok (.ifCond .ne 15, 3) := by decide +kernel
theorem dW_1873 : decode code 1873 = .ok (.aload_n 3, 1) := by decide +kernel
theorem dW_1874 : decode code 1874 = .ok (.iconst 0, 1) := by decide +kernel
theorem dW_1875 : decode code 1875 = .ok (.laload, 1) := by decide +kernel
theorem dW_1876 : decode code 1876 = .ok (.iload 7, 2) := by decide +kernel
theorem dW_1878 : decode code 1878 = .ok (.i2l, 1) := by decide +kernel
theorem dW_1879 : decode code 1879 = .ok (.lcmp, 1) := by decide +kernel
theorem dW_1880 : decode code 1880 = .ok (.ifCond .eq 5, 3) := by decide +kernel
theorem dW_1883 : decode code 1883 = .ok (.iconst 0, 1) := by decide +kernel
theorem dW_1884 : decode code 1884 = .ok (.ireturn, 1) := by decide +kernel
theorem dW_1885 : decode code 1885 = .ok (.goto 1338, 3) := by decide +kernel
theorem dW_1888 : decode code 1888 = .ok (.aload_n 1, 1) := by decide +kernel
theorem dW_1889 : decode code 1889 = .ok (.aload_n 0, 1) := by decide +kernel
theorem dW_1890 : decode code 1890 = .ok (.iload 5, 2) := by decide +kernel
theorem dW_1892 : decode code 1892 = .ok (.iconst 1, 1) := by decide +kernel
theorem dW_1893 : decode code 1893 = .ok (.iadd, 1) := by decide +kernel
theorem dW_1894 : decode code 1894 = .ok (.iaload, 1) := by decide +kernel
theorem dW_1895 : decode code 1895 = .ok (.aload_n 0, 1) := by decide +kernel
theorem dW_1896 : decode code 1896 = .ok (.iload 5, 2) := by decide +kernel
theorem dW_1898 : decode code 1898 = .ok (.iconst 2, 1) := by decide +kernel
theorem dW_1899 : decode code 1899 = .ok (.iadd, 1) := by decide +kernel
theorem dW_1900 : decode code 1900 = .ok (.iaload, 1) := by decide +kernel
theorem dW_1901 : decode code 1901 = .ok (.aload_n 3, 1) := by decide +kernel
theorem dW_1902 : decode code 1902 = .ok (.invokestatic 291, 3) := by decide +kernel
theorem dW_1905 : decode code 1905 = .ok (.istore 6, 2) := by decide +kernel
theorem dW_1907 : decode code 1907 = .ok (.aload_n 2, 1) := by decide +kernel
theorem dW_1908 : decode code 1908 = .ok (.aload_n 0, 1) := by decide +kernel
theorem dW_1909 : decode code 1909 = .ok (.iload 5, 2) := by decide +kernel
theorem dW_1911 : decode code 1911 = .ok (.iconst 1, 1) := by decide +kernel
theorem dW_1912 : decode code 1912 = .ok (.iadd, 1) := by decide +kernel
theorem dW_1913 : decode code 1913 = .ok (.iaload, 1) := by decide +kernel
theorem dW_1914 : decode code 1914 = .ok (.aload_n 0, 1) := by decide +kernel
theorem dW_1915 : decode code 1915 = .ok (.iload 5, 2) := by decide +kernel
theorem dW_1917 : decode code 1917 = .ok (.iconst 2, 1) := by decide +kernel
theorem dW_1918 : decode code 1918 = .ok (.iadd, 1) := by decide +kernel
theorem dW_1919 : decode code 1919 = .ok (.iaload, 1) := by decide +kernel
theorem dW_1920 : decode code 1920 = .ok (.invokevirtual 293, 3) := by decide +kernel
theorem dW_1923 : decode code 1923 = .ok (.istore 7, 2) := by decide +kernel
theorem dW_1925 : decode code 1925 = .ok (.aload_n 2, 1) := by decide +kernel
theorem dW_1926 : decode code 1926 = .ok (.invokevirtual 157, 3) := by decide +kernel
theorem dW_1929 : decode code 1929 = .ok (.iload 6, 2) := by decide +kernel
theorem dW_1931 : decode code 1931 = .ok (.if_icmp .eq 5, 3) := by decide +kernel
theorem dW_1934 : decode code 1934 = .ok (.iconst 0, 1) := by decide +kernel
theorem dW_1935 : decode code 1935 = .ok (.ireturn, 1) := by decide +kernel
theorem dW_1936 : decode code 1936 = .ok (.iload 6, 2) := by decide +kernel
theorem dW_1938 : decode code 1938 = .ok (.ifCond .ne 15, 3) := by decide +kernel
theorem dW_1941 : decode code 1941 = .ok (.aload_n 3, 1) := by decide +kernel
theorem dW_1942 : decode code 1942 = .ok (.iconst 0, 1) := by decide +kernel
theorem dW_1943 : decode code 1943 = .ok (.laload, 1) := by decide +kernel
theorem dW_1944 : decode code 1944 = .ok (.iload 7, 2) := by decide +kernel
theorem dW_1946 : decode code 1946 = .ok (.i2l, 1) := by decide +kernel
theorem dW_1947 : decode code 1947 = .ok (.lcmp, 1) := by decide +kernel
theorem dW_1948 : decode code 1948 = .ok (.ifCond .eq 5, 3) := by decide +kernel
theorem dW_1951 : decode code 1951 = .ok (.iconst 0, 1) := by decide +kernel
theorem dW_1952 : decode code 1952 = .ok (.ireturn, 1) := by decide +kernel
theorem dW_1953 : decode code 1953 = .ok (.goto 1270, 3) := by decide +kernel
theorem dW_1956 : decode code 1956 = .ok (.aload_n 1, 1) := by decide +kernel
theorem dW_1957 : decode code 1957 = .ok (.aload_n 0, 1) := by decide +kernel
theorem dW_1958 : decode code 1958 = .ok (.iload 5, 2) := by decide +kernel
theorem dW_1960 : decode code 1960 = .ok (.iconst 1, 1) := by decide +kernel
theorem dW_1961 : decode code 1961 = .ok (.iadd, 1) := by decide +kernel
theorem dW_1962 : decode code 1962 = .ok (.iaload, 1) := by decide +kernel
theorem dW_1963 : decode code 1963 = .ok (.aload_n 0, 1) := by decide +kernel
theorem dW_1964 : decode code 1964 = .ok (.iload 5, 2) := by decide +kernel
theorem dW_1966 : decode code 1966 = .ok (.iconst 2, 1) := by decide +kernel
theorem dW_1967 : decode code 1967 = .ok (.iadd, 1) := by decide +kernel
theorem dW_1968 : decode code 1968 = .ok (.iaload, 1) := by decide +kernel
theorem dW_1969 : decode code 1969 = .ok (.aload_n 3, 1) := by decide +kernel
theorem dW_1970 : decode code 1970 = .ok (.invokestatic 294, 3) := by decide +kernel
theorem dW_1973 : decode code 1973 = .ok (.istore 6, 2) := by decide +kernel
theorem dW_1975 : decode code 1975 = .ok (.aload_n 2, 1) := by decide +kernel
theorem dW_1976 : decode code 1976 = .ok (.aload_n 0, 1) := by decide +kernel
theorem dW_1977 : decode code 1977 = .ok (.iload 5, 2) := by decide +kernel
theorem dW_1979 : decode code 1979 = .ok (.iconst 1, 1) := by decide +kernel
theorem dW_1980 : decode code 1980 = .ok (.iadd, 1) := by decide +kernel
theorem dW_1981 : decode code 1981 = .ok (.iaload, 1) := by decide +kernel
theorem dW_1982 : decode code 1982 = .ok (.aload_n 0, 1) := by decide +kernel
theorem dW_1983 : decode code 1983 = .ok (.iload 5, 2) := by decide +kernel
theorem dW_1985 : decode code 1985 = .ok (.iconst 2, 1) := by decide +kernel
theorem dW_1986 : decode code 1986 = .ok (.iadd, 1) := by decide +kernel
theorem dW_1987 : decode code 1987 = .ok (.iaload, 1) := by decide +kernel
theorem dW_1988 : decode code 1988 = .ok (.invokevirtual 296, 3) := by decide +kernel
theorem dW_1991 : decode code 1991 = .ok (.istore 7, 2) := by decide +kernel
theorem dW_1993 : decode code 1993 = .ok (.aload_n 2, 1) := by decide +kernel
theorem dW_1994 : decode code 1994 = .ok (.invokevirtual 157, 3) := by decide +kernel
theorem dW_1997 : decode code 1997 = .ok (.iload 6, 2) := by decide +kernel
theorem dW_1999 : decode code 1999 = .ok (.if_icmp .eq 5, 3) := by decide +kernel
theorem dW_2002 : decode code 2002 = .ok (.iconst 0, 1) := by decide +kernel
theorem dW_2003 : decode code 2003 = .ok (.ireturn, 1) := by decide +kernel
theorem dW_2004 : decode code 2004 = .ok (.iload 6, 2) := by decide +kernel
theorem dW_2006 : decode code 2006 = .ok (.ifCond .ne 15, 3) := by decide +kernel
theorem dW_2009 : decode code 2009 = .ok (.aload_n 3, 1) := by decide +kernel
theorem dW_2010 : decode code 2010 = .ok (.iconst 0, 1) := by decide +kernel
theorem dW_2011 : decode code 2011 = .ok (.laload, 1) := by decide +kernel
theorem dW_2012 : decode code 2012 = .ok (.iload 7, 2) := by decide +kernel
theorem dW_2014 : decode code 2014 = .ok (.i2l, 1) := by decide +kernel
theorem dW_2015 : decode code 2015 = .ok (.lcmp, 1) := by decide +kernel
theorem dW_2016 : decode code 2016 = .ok (.ifCond .eq 5, 3) := by decide +kernel
theorem dW_2019 : decode code 2019 = .ok (.iconst 0, 1) := by decide +kernel
theorem dW_2020 : decode code 2020 = .ok (.ireturn, 1) := by decide +kernel
theorem dW_2021 : decode code 2021 = .ok (.goto 1202, 3) := by decide +kernel
theorem dW_2024 : decode code 2024 = .ok (.aload_n 1, 1) := by decide +kernel
theorem dW_2025 : decode code 2025 = .ok (.aload_n 0, 1) := by decide +kernel
theorem dW_2026 : decode code 2026 = .ok (.iload 5, 2) := by decide +kernel
theorem dW_2028 : decode code 2028 = .ok (.iconst 1, 1) := by decide +kernel
theorem dW_2029 : decode code 2029 = .ok (.iadd, 1) := by decide +kernel
theorem dW_2030 : decode code 2030 = .ok (.iaload, 1) := by decide +kernel
theorem dW_2031 : decode code 2031 = .ok (.aload_n 0, 1) := by decide +kernel
theorem dW_2032 : decode code 2032 = .ok (.iload 5, 2) := by decide +kernel
theorem dW_2034 : decode code 2034 = .ok (.iconst 2, 1) := by decide +kernel
theorem dW_2035 : decode code 2035 = .ok (.iadd, 1) := by decide +kernel
theorem dW_2036 : decode code 2036 = .ok (.iaload, 1) := by decide +kernel
theorem dW_2037 : decode code 2037 = .ok (.aload_n 3, 1) := by decide +kernel
theorem dW_2038 : decode code 2038 = .ok (.invokestatic 297, 3) := by decide +kernel
theorem dW_2041 : decode code 2041 = .ok (.istore 6, 2) := by decide +kernel
theorem dW_2043 : decode code 2043 = .ok (.aload_n 2, 1) := by decide +kernel
theorem dW_2044 : decode code 2044 = .ok (.aload_n 0, 1) := by decide +kernel
theorem dW_2045 : decode code 2045 = .ok (.iload 5, 2) := by decide +kernel
theorem dW_2047 : decode code 2047 = .ok (.iconst 1, 1) := by decide +kernel
theorem dW_2048 : decode code 2048 = .ok (.iadd, 1) := by decide +kernel
theorem dW_2049 : decode code 2049 = .ok (.iaload, 1) := by decide +kernel
theorem dW_2050 : decode code 2050 = .ok (.aload_n 0, 1) := by decide +kernel
theorem dW_2051 : decode code 2051 = .ok (.iload 5, 2) := by decide +kernel
theorem dW_2053 : decode code 2053 = .ok (.iconst 2, 1) := by decide +kernel
theorem dW_2054 : decode code 2054 = .ok (.iadd, 1) := by decide +kernel
theorem dW_2055 : decode code 2055 = .ok (.iaload, 1) := by decide +kernel
theorem dW_2056 : decode code 2056 = .ok (.invokevirtual 299, 3) := by decide +kernel
theorem dW_2059 : decode code 2059 = .ok (.istore 7, 2) := by decide +kernel
theorem dW_2061 : decode code 2061 = .ok (.aload_n 2, 1) := by decide +kernel
theorem dW_2062 : decode code 2062 = .ok (.invokevirtual 157, 3) := by decide +kernel
theorem dW_2065 : decode code 2065 = .ok (.iload 6, 2) := by decide +kernel
theorem dW_2067 : decode code 2067 = .ok (.if_icmp .eq 5, 3) := by decide +kernel
theorem dW_2070 : decode code 2070 = .ok (.iconst 0, 1) := by decide +kernel
theorem dW_2071 : decode code 2071 = .ok (.ireturn, 1) := by decide +kernel
theorem dW_2072 : decode code 2072 = .ok (.iload 6, 2) := by decide +kernel
theorem dW_2074 : decode code 2074 = .ok (.ifCond .ne 15, 3) := by decide +kernel
theorem dW_2077 : decode code 2077 = .ok (.aload_n 3, 1) := by decide +kernel
theorem dW_2078 : decode code 2078 = .ok (.iconst 0, 1) := by decide +kernel
theorem dW_2079 : decode code 2079 = .ok (.laload, 1) := by decide +kernel
theorem dW_2080 : decode code 2080 = .ok (.iload 7, 2) := by decide +kernel
theorem dW_2082 : decode code 2082 = .ok (.i2l, 1) := by decide +kernel
theorem dW_2083 : decode code 2083 = .ok (.lcmp, 1) := by decide +kernel
theorem dW_2084 : decode code 2084 = .ok (.ifCond .eq 5, 3) := by decide +kernel
theorem dW_2087 : decode code 2087 = .ok (.iconst 0, 1) := by decide +kernel
theorem dW_2088 : decode code 2088 = .ok (.ireturn, 1) := by decide +kernel
theorem dW_2089 : decode code 2089 = .ok (.goto 1134, 3) := by decide +kernel
theorem dW_2092 : decode code 2092 = .ok (.aload_n 1, 1) := by decide +kernel
theorem dW_2093 : decode code 2093 = .ok (.aload_n 0, 1) := by decide +kernel
theorem dW_2094 : decode code 2094 = .ok (.iload 5, 2) := by decide +kernel
theorem dW_2096 : decode code 2096 = .ok (.iconst 1, 1) := by decide +kernel
theorem dW_2097 : decode code 2097 = .ok (.iadd, 1) := by decide +kernel
theorem dW_2098 : decode code 2098 = .ok (.iaload, 1) := by decide +kernel
theorem dW_2099 : decode code 2099 = .ok (.aload_n 0, 1) := by decide +kernel
theorem dW_2100 : decode code 2100 = .ok (.iload 5, 2) := by decide +kernel
theorem dW_2102 : decode code 2102 = .ok (.iconst 2, 1) := by decide +kernel
theorem dW_2103 : decode code 2103 = .ok (.iadd, 1) := by decide +kernel
theorem dW_2104 : decode code 2104 = .ok (.iaload, 1) := by decide +kernel
theorem dW_2105 : decode code 2105 = .ok (.aload_n 3, 1) := by decide +kernel
theorem dW_2106 : decode code 2106 = .ok (.invokestatic 300, 3) := by decide +kernel
theorem dW_2109 : decode code 2109 = .ok (.istore 6, 2) := by decide +kernel
theorem dW_2111 : decode code 2111 = .ok (.aload_n 2, 1) := by decide +kernel
theorem dW_2112 : decode code 2112 = .ok (.aload_n 0, 1) := by decide +kernel
theorem dW_2113 : decode code 2113 = .ok (.iload 5, 2) := by decide +kernel
theorem dW_2115 : decode code 2115 = .ok (.iconst 1, 1) := by decide +kernel
theorem dW_2116 : decode code 2116 = .ok (.iadd, 1) := by decide +kernel
theorem dW_2117 : decode code 2117 = .ok (.iaload, 1) := by decide +kernel
theorem dW_2118 : decode code 2118 = .ok (.aload_n 0, 1) := by decide +kernel
theorem dW_2119 : decode code 2119 = .ok (.iload 5, 2) := by decide +kernel
theorem dW_2121 : decode code 2121 = .ok (.iconst 2, 1) := by decide +kernel
theorem dW_2122 : decode code 2122 = .ok (.iadd, 1) := by decide +kernel
theorem dW_2123 : decode code 2123 = .ok (.iaload, 1) := by decide +kernel
theorem dW_2124 : decode code 2124 = .ok (.invokevirtual 302, 3) := by decide +kernel
theorem dW_2127 : decode code 2127 = .ok (.istore 7, 2) := by decide +kernel
theorem dW_2129 : decode code 2129 = .ok (.aload_n 2, 1) := by decide +kernel
theorem dW_2130 : decode code 2130 = .ok (.invokevirtual 157, 3) := by decide +kernel
theorem dW_2133 : decode code 2133 = .ok (.iload 6, 2) := by decide +kernel
theorem dW_2135 : decode code 2135 = .ok (.if_icmp .eq 5, 3) := by decide +kernel
theorem dW_2138 : decode code 2138 = .ok (.iconst 0, 1) := by decide +kernel
theorem dW_2139 : decode code 2139 = .ok (.ireturn, 1) := by decide +kernel
theorem dW_2140 : decode code 2140 = .ok (.iload 6, 2) := by decide +kernel
theorem dW_2142 : decode code 2142 = .ok (.ifCond .ne 15, 3) := by decide +kernel
theorem dW_2145 : decode code 2145 = .ok (.aload_n 3, 1) := by decide +kernel
theorem dW_2146 : decode code 2146 = .ok (.iconst 0, 1) := by decide +kernel
theorem dW_2147 : decode code 2147 = .ok (.laload, 1) := by decide +kernel
theorem dW_2148 : decode code 2148 = .ok (.iload 7, 2) := by decide +kernel
theorem dW_2150 : decode code 2150 = .ok (.i2l, 1) := by decide +kernel
theorem dW_2151 : decode code 2151 = .ok (.lcmp, 1) := by decide +kernel
theorem dW_2152 : decode code 2152 = .ok (.ifCond .eq 5, 3) := by decide +kernel
theorem dW_2155 : decode code 2155 = .ok (.iconst 0, 1) := by decide +kernel
theorem dW_2156 : decode code 2156 = .ok (.ireturn, 1) := by decide +kernel
theorem dW_2157 : decode code 2157 = .ok (.goto 1066, 3) := by decide +kernel
theorem dW_2160 : decode code 2160 = .ok (.aload_n 1, 1) := by decide +kernel
theorem dW_2161 : decode code 2161 = .ok (.aload_n 0, 1) := by decide +kernel
theorem dW_2162 : decode code 2162 = .ok (.iload 5, 2) := by decide +kernel
theorem dW_2164 : decode code 2164 = .ok (.iconst 1, 1) := by decide +kernel
theorem dW_2165 : decode code 2165 = .ok (.iadd, 1) := by decide +kernel
theorem dW_2166 : decode code 2166 = .ok (.iaload, 1) := by decide +kernel
theorem dW_2167 : decode code 2167 = .ok (.aload_n 0, 1) := by decide +kernel
theorem dW_2168 : decode code 2168 = .ok (.iload 5, 2) := by decide +kernel
theorem dW_2170 : decode code 2170 = .ok (.iconst 2, 1) := by decide +kernel
theorem dW_2171 : decode code 2171 = .ok (.iadd, 1) := by decide +kernel
theorem dW_2172 : decode code 2172 = .ok (.iaload, 1) := by decide +kernel
theorem dW_2173 : decode code 2173 = .ok (.aload_n 3, 1) := by decide +kernel
theorem dW_2174 : decode code 2174 = .ok (.invokestatic 303, 3) := by decide +kernel
theorem dW_2177 : decode code 2177 = .ok (.istore 6, 2) := by decide +kernel
theorem dW_2179 : decode code 2179 = .ok (.aload_n 2, 1) := by decide +kernel
theorem dW_2180 : decode code 2180 = .ok (.aload_n 0, 1) := by decide +kernel
theorem dW_2181 : decode code 2181 = .ok (.iload 5, 2) := by decide +kernel
theorem dW_2183 : decode code 2183 = .ok (.iconst 1, 1) := by decide +kernel
theorem dW_2184 : decode code 2184 = .ok (.iadd, 1) := by decide +kernel
theorem dW_2185 : decode code 2185 = .ok (.iaload, 1) := by decide +kernel
theorem dW_2186 : decode code 2186 = .ok (.aload_n 0, 1) := by decide +kernel
theorem dW_2187 : decode code 2187 = .ok (.iload 5, 2) := by decide +kernel
theorem dW_2189 : decode code 2189 = .ok (.iconst 2, 1) := by decide +kernel
theorem dW_2190 : decode code 2190 = .ok (.iadd, 1) := by decide +kernel
theorem dW_2191 : decode code 2191 = .ok (.iaload, 1) := by decide +kernel
theorem dW_2192 : decode code 2192 = .ok (.invokevirtual 305, 3) := by decide +kernel
theorem dW_2195 : decode code 2195 = .ok (.istore 7, 2) := by decide +kernel
theorem dW_2197 : decode code 2197 = .ok (.aload_n 2, 1) := by decide +kernel
theorem dW_2198 : decode code 2198 = .ok (.invokevirtual 157, 3) := by decide +kernel
theorem dW_2201 : decode code 2201 = .ok (.iload 6, 2) := by decide +kernel
theorem dW_2203 : decode code 2203 = .ok (.if_icmp .eq 5, 3) := by decide +kernel
theorem dW_2206 : decode code 2206 = .ok (.iconst 0, 1) := by decide +kernel
theorem dW_2207 : decode code 2207 = .ok (.ireturn, 1) := by decide +kernel
theorem dW_2208 : decode code 2208 = .ok (.iload 6, 2) := by decide +kernel
theorem dW_2210 : decode code 2210 = .ok (.ifCond .ne 15, 3) := by decide +kernel
theorem dW_2213 : decode code 2213 = .ok (.aload_n 3, 1) := by decide +kernel
theorem dW_2214 : decode code 2214 = .ok (.iconst 0, 1) := by decide +kernel
theorem dW_2215 : decode code 2215 = .ok (.laload, 1) := by decide +kernel
theorem dW_2216 : decode code 2216 = .ok (.iload 7, 2) := by decide +kernel
theorem dW_2218 : decode code 2218 = .ok (.i2l, 1) := by decide +kernel
theorem dW_2219 : decode code 2219 = .ok (.lcmp, 1) := by decide +kernel
theorem dW_2220 : decode code 2220 = .ok (.ifCond .eq 5, 3) := by decide +kernel
theorem dW_2223 : decode code 2223 = .ok (.iconst 0, 1) := by decide +kernel
theorem dW_2224 : decode code 2224 = .ok (.ireturn, 1) := by decide +kernel
theorem dW_2225 : decode code 2225 = .ok (.goto 998, 3) := by decide +kernel
theorem dW_2228 : decode code 2228 = .ok (.aload_n 1, 1) := by decide +kernel
theorem dW_2229 : decode code 2229 = .ok (.aload_n 0, 1) := by decide +kernel
theorem dW_2230 : decode code 2230 = .ok (.iload 5, 2) := by decide +kernel
theorem dW_2232 : decode code 2232 = .ok (.iconst 1, 1) := by decide +kernel
theorem dW_2233 : decode code 2233 = .ok (.iadd, 1) := by decide +kernel
theorem dW_2234 : decode code 2234 = .ok (.iaload, 1) := by decide +kernel
theorem dW_2235 : decode code 2235 = .ok (.aload_n 0, 1) := by decide +kernel
theorem dW_2236 : decode code 2236 = .ok (.iload 5, 2) := by decide +kernel
theorem dW_2238 : decode code 2238 = .ok (.iconst 2, 1) := by decide +kernel
theorem dW_2239 : decode code 2239 = .ok (.iadd, 1) := by decide +kernel
theorem dW_2240 : decode code 2240 = .ok (.iaload, 1) := by decide +kernel
theorem dW_2241 : decode code 2241 = .ok (.aload_n 3, 1) := by decide +kernel
theorem dW_2242 : decode code 2242 = .ok (.invokestatic 306, 3) := by decide +kernel
theorem dW_2245 : decode code 2245 = .ok (.istore 6, 2) := by decide +kernel
theorem dW_2247 : decode code 2247 = .ok (.aload_n 2, 1) := by decide +kernel
theorem dW_2248 : decode code 2248 = .ok (.aload_n 0, 1) := by decide +kernel
theorem dW_2249 : decode code 2249 = .ok (.iload 5, 2) := by decide +kernel
theorem dW_2251 : decode code 2251 = .ok (.iconst 1, 1) := by decide +kernel
theorem dW_2252 : decode code 2252 = .ok (.iadd, 1) := by decide +kernel
theorem dW_2253 : decode code 2253 = .ok (.iaload, 1) := by decide +kernel
theorem dW_2254 : decode code 2254 = .ok (.aload_n 0, 1) := by decide +kernel
theorem dW_2255 : decode code 2255 = .ok (.iload 5, 2) := by decide +kernel
theorem dW_2257 : decode code 2257 = .ok (.iconst 2, 1) := by decide +kernel
theorem dW_2258 : decode code 2258 = .ok (.iadd, 1) := by decide +kernel
theorem dW_2259 : decode code 2259 = .ok (.iaload, 1) := by decide +kernel
theorem dW_2260 : decode code 2260 = .ok (.invokevirtual 308, 3) := by decide +kernel
theorem dW_2263 : decode code 2263 = .ok (.istore 7, 2) := by decide +kernel
theorem dW_2265 : decode code 2265 = .ok (.aload_n 2, 1) := by decide +kernel
theorem dW_2266 : decode code 2266 = .ok (.invokevirtual 157, 3) := by decide +kernel
theorem dW_2269 : decode code 2269 = .ok (.iload 6, 2) := by decide +kernel
theorem dW_2271 : decode code 2271 = .ok (.if_icmp .eq 5, 3) := by decide +kernel
theorem dW_2274 : decode code 2274 = .ok (.iconst 0, 1) := by decide +kernel
theorem dW_2275 : decode code 2275 = .ok (.ireturn, 1) := by decide +kernel
theorem dW_2276 : decode code 2276 = .ok (.iload 6, 2) := by decide +kernel
theorem dW_2278 : decode code 2278 = .ok (.ifCond .ne 15, 3) := by decide +kernel
theorem dW_2281 : decode code 2281 = .ok (.aload_n 3, 1) := by decide +kernel
theorem dW_2282 : decode code 2282 = .ok (.iconst 0, 1) := by decide +kernel
theorem dW_2283 : decode code 2283 = .ok (.laload, 1) := by decide +kernel
theorem dW_2284 : decode code 2284 = .ok (.iload 7, 2) := by decide +kernel
theorem dW_2286 : decode code 2286 = .ok (.i2l, 1) := by decide +kernel
theorem dW_2287 : decode code 2287 = .ok (.lcmp, 1) := by decide +kernel
theorem dW_2288 : decode code 2288 = .ok (.ifCond .eq 5, 3) := by decide +kernel
theorem dW_2291 : decode code 2291 = .ok (.iconst 0, 1) := by decide +kernel
theorem dW_2292 : decode code 2292 = .ok (.ireturn, 1) := by decide +kernel
theorem dW_2293 : decode code 2293 = .ok (.goto 930, 3) := by decide +kernel
theorem dW_2296 : decode code 2296 = .ok (.aload_n 1, 1) := by decide +kernel
theorem dW_2297 : decode code 2297 = .ok (.aload_n 0, 1) := by decide +kernel
theorem dW_2298 : decode code 2298 = .ok (.iload 5, 2) := by decide +kernel
theorem dW_2300 : decode code 2300 = .ok (.iconst 1, 1) := by decide +kernel
theorem dW_2301 : decode code 2301 = .ok (.iadd, 1) := by decide +kernel
theorem dW_2302 : decode code 2302 = .ok (.iaload, 1) := by decide +kernel
theorem dW_2303 : decode code 2303 = .ok (.aload_n 0, 1) := by decide +kernel
theorem dW_2304 : decode code 2304 = .ok (.iload 5, 2) := by decide +kernel
theorem dW_2306 : decode code 2306 = .ok (.iconst 2, 1) := by decide +kernel
theorem dW_2307 : decode code 2307 = .ok (.iadd, 1) := by decide +kernel
theorem dW_2308 : decode code 2308 = .ok (.iaload, 1) := by decide +kernel
theorem dW_2309 : decode code 2309 = .ok (.aload_n 3, 1) := by decide +kernel
theorem dW_2310 : decode code 2310 = .ok (.invokestatic 309, 3) := by decide +kernel
theorem dW_2313 : decode code 2313 = .ok (.istore 6, 2) := by decide +kernel
theorem dW_2315 : decode code 2315 = .ok (.aload_n 2, 1) := by decide +kernel
theorem dW_2316 : decode code 2316 = .ok (.aload_n 0, 1) := by decide +kernel
theorem dW_2317 : decode code 2317 = .ok (.iload 5, 2) := by decide +kernel
theorem dW_2319 : decode code 2319 = .ok (.iconst 1, 1) := by decide +kernel
theorem dW_2320 : decode code 2320 = .ok (.iadd, 1) := by decide +kernel
theorem dW_2321 : decode code 2321 = .ok (.iaload, 1) := by decide +kernel
theorem dW_2322 : decode code 2322 = .ok (.aload_n 0, 1) := by decide +kernel
theorem dW_2323 : decode code 2323 = .ok (.iload 5, 2) := by decide +kernel
theorem dW_2325 : decode code 2325 = .ok (.iconst 2, 1) := by decide +kernel
theorem dW_2326 : decode code 2326 = .ok (.iadd, 1) := by decide +kernel
theorem dW_2327 : decode code 2327 = .ok (.iaload, 1) := by decide +kernel
theorem dW_2328 : decode code 2328 = .ok (.invokevirtual 311, 3) := by decide +kernel
theorem dW_2331 : decode code 2331 = .ok (.istore 7, 2) := by decide +kernel
theorem dW_2333 : decode code 2333 = .ok (.aload_n 2, 1) := by decide +kernel
theorem dW_2334 : decode code 2334 = .ok (.invokevirtual 157, 3) := by decide +kernel
theorem dW_2337 : decode code 2337 = .ok (.iload 6, 2) := by decide +kernel
theorem dW_2339 : decode code 2339 = .ok (.if_icmp .eq 5, 3) := by decide +kernel
theorem dW_2342 : decode code 2342 = .ok (.iconst 0, 1) := by decide +kernel
theorem dW_2343 : decode code 2343 = .ok (.ireturn, 1) := by decide +kernel
theorem dW_2344 : decode code 2344 = .ok (.iload 6, 2) := by decide +kernel
theorem dW_2346 : decode code 2346 = .ok (.ifCond .ne 15, 3) := by decide +kernel
theorem dW_2349 : decode code 2349 = .ok (.aload_n 3, 1) := by decide +kernel
theorem dW_2350 : decode code 2350 = .ok (.iconst 0, 1) := by decide +kernel
theorem dW_2351 : decode code 2351 = .ok (.laload, 1) := by decide +kernel
theorem dW_2352 : decode code 2352 = .ok (.iload 7, 2) := by decide +kernel
theorem dW_2354 : decode code 2354 = .ok (.i2l, 1) := by decide +kernel
theorem dW_2355 : decode code 2355 = .ok (.lcmp, 1) := by decide +kernel
theorem dW_2356 : decode code 2356 = .ok (.ifCond .eq 5, 3) := by decide +kernel
theorem dW_2359 : decode code 2359 = .ok (.iconst 0, 1) := by decide +kernel
theorem dW_2360 : decode code 2360 = .ok (.ireturn, 1) := by decide +kernel
theorem dW_2361 : decode code 2361 = .ok (.goto 862, 3) := by decide +kernel
theorem dW_2364 : decode code 2364 = .ok (.aload_n 1, 1) := by decide +kernel
theorem dW_2365 : decode code 2365 = .ok (.aload_n 0, 1) := by decide +kernel
theorem dW_2366 : decode code 2366 = .ok (.iload 5, 2) := by decide +kernel
theorem dW_2368 : decode code 2368 = .ok (.iconst 1, 1) := by decide +kernel
theorem dW_2369 : decode code 2369 = .ok (.iadd, 1) := by decide +kernel
theorem dW_2370 : decode code 2370 = .ok (.iaload, 1) := by decide +kernel
theorem dW_2371 : decode code 2371 = .ok (.aload_n 0, 1) := by decide +kernel
theorem dW_2372 : decode code 2372 = .ok (.iload 5, 2) := by decide +kernel
theorem dW_2374 : decode code 2374 = .ok (.iconst 2, 1) := by decide +kernel
theorem dW_2375 : decode code 2375 = .ok (.iadd, 1) := by decide +kernel
theorem dW_2376 : decode code 2376 = .ok (.iaload, 1) := by decide +kernel
theorem dW_2377 : decode code 2377 = .ok (.aload_n 3, 1) := by decide +kernel
theorem dW_2378 : decode code 2378 = .ok (.invokestatic 312, 3) := by decide +kernel
theorem dW_2381 : decode code 2381 = .ok (.istore 6, 2) := by decide +kernel
theorem dW_2383 : decode code 2383 = .ok (.aload_n 2, 1) := by decide +kernel
theorem dW_2384 : decode code 2384 = .ok (.aload_n 0, 1) := by decide +kernel
theorem dW_2385 : decode code 2385 = .ok (.iload 5, 2) := by decide +kernel
theorem dW_2387 : decode code 2387 = .ok (.iconst 1, 1) := by decide +kernel
theorem dW_2388 : decode code 2388 = .ok (.iadd, 1) := by decide +kernel
theorem dW_2389 : decode code 2389 = .ok (.iaload, 1) := by decide +kernel
theorem dW_2390 : decode code 2390 = .ok (.aload_n 0, 1) := by decide +kernel
theorem dW_2391 : decode code 2391 = .ok (.iload 5, 2) := by decide +kernel
theorem dW_2393 : decode code 2393 = .ok (.iconst 2, 1) := by decide +kernel
theorem dW_2394 : decode code 2394 = .ok (.iadd, 1) := by decide +kernel
theorem dW_2395 : decode code 2395 = .ok (.iaload, 1) := by decide +kernel
theorem dW_2396 : decode code 2396 = .ok (.invokevirtual 314, 3) := by decide +kernel
theorem dW_2399 : decode code 2399 = .ok (.istore 7, 2) := by decide +kernel
theorem dW_2401 : decode code 2401 = .ok (.aload_n 2, 1) := by decide +kernel
theorem dW_2402 : decode code 2402 = .ok (.invokevirtual 157, 3) := by decide +kernel
theorem dW_2405 : decode code 2405 = .ok (.iload 6, 2) := by decide +kernel
theorem dW_2407 : decode code 2407 = .ok (.if_icmp .eq 5, 3) := by decide +kernel
theorem dW_2410 : decode code 2410 = .ok (.iconst 0, 1) := by decide +kernel
theorem dW_2411 : decode code 2411 = .ok (.ireturn, 1) := by decide +kernel
theorem dW_2412 : decode code 2412 = .ok (.iload 6, 2) := by decide +kernel
theorem dW_2414 : decode code 2414 = .ok (.ifCond .ne 15, 3) := by decide +kernel
theorem dW_2417 : decode code 2417 = .ok (.aload_n 3, 1) := by decide +kernel
theorem dW_2418 : decode code 2418 = .ok (.iconst 0, 1) := by decide +kernel
theorem dW_2419 : decode code 2419 = .ok (.laload, 1) := by decide +kernel
theorem dW_2420 : decode code 2420 = .ok (.iload 7, 2) := by decide +kernel
theorem dW_2422 : decode code 2422 = .ok (.i2l, 1) := by decide +kernel
theorem dW_2423 : decode code 2423 = .ok (.lcmp, 1) := by decide +kernel
theorem dW_2424 : decode code 2424 = .ok (.ifCond .eq 5, 3) := by decide +kernel
theorem dW_2427 : decode code 2427 = .ok (.iconst 0, 1) := by decide +kernel
theorem dW_2428 : decode code 2428 = .ok (.ireturn, 1) := by decide +kernel
theorem dW_2429 : decode code 2429 = .ok (.goto 794, 3) := by decide +kernel
theorem dW_2432 : decode code 2432 = .ok (.aload_n 1, 1) := by decide +kernel
theorem dW_2433 : decode code 2433 = .ok (.aload_n 0, 1) := by decide +kernel
theorem dW_2434 : decode code 2434 = .ok (.iload 5, 2) := by decide +kernel
theorem dW_2436 : decode code 2436 = .ok (.iconst 1, 1) := by decide +kernel
theorem dW_2437 : decode code 2437 = .ok (.iadd, 1) := by decide +kernel
theorem dW_2438 : decode code 2438 = .ok (.iaload, 1) := by decide +kernel
theorem dW_2439 : decode code 2439 = .ok (.aload_n 3, 1) := by decide +kernel
theorem dW_2440 : decode code 2440 = .ok (.invokestatic 315, 3) := by decide +kernel
theorem dW_2443 : decode code 2443 = .ok (.istore 6, 2) := by decide +kernel
theorem dW_2445 : decode code 2445 = .ok (.aload_n 2, 1) := by decide +kernel
theorem dW_2446 : decode code 2446 = .ok (.aload_n 0, 1) := by decide +kernel
theorem dW_2447 : decode code 2447 = .ok (.iload 5, 2) := by decide +kernel
theorem dW_2449 : decode code 2449 = .ok (.iconst 1, 1) := by decide +kernel
theorem dW_2450 : decode code 2450 = .ok (.iadd, 1) := by decide +kernel
theorem dW_2451 : decode code 2451 = .ok (.iaload, 1) := by decide +kernel
theorem dW_2452 : decode code 2452 = .ok (.invokevirtual 317, 3) := by decide +kernel
theorem dW_2455 : decode code 2455 = .ok (.istore 7, 2) := by decide +kernel
theorem dW_2457 : decode code 2457 = .ok (.aload_n 2, 1) := by decide +kernel
theorem dW_2458 : decode code 2458 = .ok (.invokevirtual 157, 3) := by decide +kernel
theorem dW_2461 : decode code 2461 = .ok (.iload 6, 2) := by decide +kernel
theorem dW_2463 : decode code 2463 = .ok (.if_icmp .eq 5, 3) := by decide +kernel
theorem dW_2466 : decode code 2466 = .ok (.iconst 0, 1) := by decide +kernel
theorem dW_2467 : decode code 2467 = .ok (.ireturn, 1) := by decide +kernel
theorem dW_2468 : decode code 2468 = .ok (.iload 6, 2) := by decide +kernel
theorem dW_2470 : decode code 2470 = .ok (.ifCond .ne 15, 3) := by decide +kernel
theorem dW_2473 : decode code 2473 = .ok (.aload_n 3, 1) := by decide +kernel
theorem dW_2474 : decode code 2474 = .ok (.iconst 0, 1) := by decide +kernel
theorem dW_2475 : decode code 2475 = .ok (.laload, 1) := by decide +kernel
theorem dW_2476 : decode code 2476 = .ok (.iload 7, 2) := by decide +kernel
theorem dW_2478 : decode code 2478 = .ok (.i2l, 1) := by decide +kernel
theorem dW_2479 : decode code 2479 = .ok (.lcmp, 1) := by decide +kernel
theorem dW_2480 : decode code 2480 = .ok (.ifCond .eq 5, 3) := by decide +kernel
theorem dW_2483 : decode code 2483 = .ok (.iconst 0, 1) := by decide +kernel
theorem dW_2484 : decode code 2484 = .ok (.ireturn, 1) := by decide +kernel
theorem dW_2485 : decode code 2485 = .ok (.goto 738, 3) := by decide +kernel
theorem dW_2488 : decode code 2488 = .ok (.aload_n 1, 1) := by decide +kernel
theorem dW_2489 : decode code 2489 = .ok (.aload_n 0, 1) := by decide +kernel
theorem dW_2490 : decode code 2490 = .ok (.iload 5, 2) := by decide +kernel
theorem dW_2492 : decode code 2492 = .ok (.iconst 1, 1) := by decide +kernel
theorem dW_2493 : decode code 2493 = .ok (.iadd, 1) := by decide +kernel
theorem dW_2494 : decode code 2494 = .ok (.iaload, 1) := by decide +kernel
theorem dW_2495 : decode code 2495 = .ok (.aload_n 3, 1) := by decide +kernel
theorem dW_2496 : decode code 2496 = .ok (.invokestatic 318, 3) := by decide +kernel
theorem dW_2499 : decode code 2499 = .ok (.istore 6, 2) := by decide +kernel
theorem dW_2501 : decode code 2501 = .ok (.aload_n 2, 1) := by decide +kernel
theorem dW_2502 : decode code 2502 = .ok (.aload_n 0, 1) := by decide +kernel
theorem dW_2503 : decode code 2503 = .ok (.iload 5, 2) := by decide +kernel
theorem dW_2505 : decode code 2505 = .ok (.iconst 1, 1) := by decide +kernel
theorem dW_2506 : decode code 2506 = .ok (.iadd, 1) := by decide +kernel
theorem dW_2507 : decode code 2507 = .ok (.iaload, 1) := by decide +kernel
theorem dW_2508 : decode code 2508 = .ok (.invokevirtual 320, 3) := by decide +kernel
theorem dW_2511 : decode code 2511 = .ok (.istore 7, 2) := by decide +kernel
theorem dW_2513 : decode code 2513 = .ok (.aload_n 2, 1) := by decide +kernel
theorem dW_2514 : decode code 2514 = .ok (.invokevirtual 157, 3) := by decide +kernel
theorem dW_2517 : decode code 2517 = .ok (.iload 6, 2) := by decide +kernel
theorem dW_2519 : decode code 2519 = .ok (.if_icmp .eq 5, 3) := by decide +kernel
theorem dW_2522 : decode code 2522 = .ok (.iconst 0, 1) := by decide +kernel
theorem dW_2523 : decode code 2523 = .ok (.ireturn, 1) := by decide +kernel
theorem dW_2524 : decode code 2524 = .ok (.iload 6, 2) := by decide +kernel
theorem dW_2526 : decode code 2526 = .ok (.ifCond .ne 15, 3) := by decide +kernel
theorem dW_2529 : decode code 2529 = .ok (.aload_n 3, 1) := by decide +kernel
theorem dW_2530 : decode code 2530 = .ok (.iconst 0, 1) := by decide +kernel
theorem dW_2531 : decode code 2531 = .ok (.laload, 1) := by decide +kernel
theorem dW_2532 : decode code 2532 = .ok (.iload 7, 2) := by decide +kernel
theorem dW_2534 : decode code 2534 = .ok (.i2l, 1) := by decide +kernel
theorem dW_2535 : decode code 2535 = .ok (.lcmp, 1) := by decide +kernel
theorem dW_2536 : decode code 2536 = .ok (.ifCond .eq 5, 3) := by decide +kernel
theorem dW_2539 : decode code 2539 = .ok (.iconst 0, 1) := by decide +kernel
theorem dW_2540 : decode code 2540 = .ok (.ireturn, 1) := by decide +kernel
theorem dW_2541 : decode code 2541 = .ok (.goto 682, 3) := by decide +kernel
theorem dW_2544 : decode code 2544 = .ok (.aload_n 1, 1) := by decide +kernel
theorem dW_2545 : decode code 2545 = .ok (.aload_n 0, 1) := by decide +kernel
theorem dW_2546 : decode code 2546 = .ok (.iload 5, 2) := by decide +kernel
theorem dW_2548 : decode code 2548 = .ok (.iconst 1, 1) := by decide +kernel
theorem dW_2549 : decode code 2549 = .ok (.iadd, 1) := by decide +kernel
theorem dW_2550 : decode code 2550 = .ok (.iaload, 1) := by decide +kernel
theorem dW_2551 : decode code 2551 = .ok (.aload_n 0, 1) := by decide +kernel
theorem dW_2552 : decode code 2552 = .ok (.iload 5, 2) := by decide +kernel
theorem dW_2554 : decode code 2554 = .ok (.iconst 2, 1) := by decide +kernel
theorem dW_2555 : decode code 2555 = .ok (.iadd, 1) := by decide +kernel
theorem dW_2556 : decode code 2556 = .ok (.iaload, 1) := by decide +kernel
theorem dW_2557 : decode code 2557 = .ok (.aload_n 3, 1) := by decide +kernel
theorem dW_2558 : decode code 2558 = .ok (.invokestatic 321, 3) := by decide +kernel
theorem dW_2561 : decode code 2561 = .ok (.istore 6, 2) := by decide +kernel
theorem dW_2563 : decode code 2563 = .ok (.aload_n 2, 1) := by decide +kernel
theorem dW_2564 : decode code 2564 = .ok (.aload_n 0, 1) := by decide +kernel
theorem dW_2565 : decode code 2565 = .ok (.iload 5, 2) := by decide +kernel
theorem dW_2567 : decode code 2567 = .ok (.iconst 1, 1) := by decide +kernel
theorem dW_2568 : decode code 2568 = .ok (.iadd, 1) := by decide +kernel
theorem dW_2569 : decode code 2569 = .ok (.iaload, 1) := by decide +kernel
theorem dW_2570 : decode code 2570 = .ok (.aload_n 0, 1) := by decide +kernel
theorem dW_2571 : decode code 2571 = .ok (.iload 5, 2) := by decide +kernel
theorem dW_2573 : decode code 2573 = .ok (.iconst 2, 1) := by decide +kernel
theorem dW_2574 : decode code 2574 = .ok (.iadd, 1) := by decide +kernel
theorem dW_2575 : decode code 2575 = .ok (.iaload, 1) := by decide +kernel
theorem dW_2576 : decode code 2576 = .ok (.invokevirtual 323, 3) := by decide +kernel
theorem dW_2579 : decode code 2579 = .ok (.istore 7, 2) := by decide +kernel
theorem dW_2581 : decode code 2581 = .ok (.aload_n 2, 1) := by decide +kernel
theorem dW_2582 : decode code 2582 = .ok (.invokevirtual 157, 3) := by decide +kernel
theorem dW_2585 : decode code 2585 = .ok (.iload 6, 2) := by decide +kernel
theorem dW_2587 : decode code 2587 = .ok (.if_icmp .eq 5, 3) := by decide +kernel
theorem dW_2590 : decode code 2590 = .ok (.iconst 0, 1) := by decide +kernel
theorem dW_2591 : decode code 2591 = .ok (.ireturn, 1) := by decide +kernel
theorem dW_2592 : decode code 2592 = .ok (.iload 6, 2) := by decide +kernel
theorem dW_2594 : decode code 2594 = .ok (.ifCond .ne 15, 3) := by decide +kernel
theorem dW_2597 : decode code 2597 = .ok (.aload_n 3, 1) := by decide +kernel
theorem dW_2598 : decode code 2598 = .ok (.iconst 0, 1) := by decide +kernel
theorem dW_2599 : decode code 2599 = .ok (.laload, 1) := by decide +kernel
theorem dW_2600 : decode code 2600 = .ok (.iload 7, 2) := by decide +kernel
theorem dW_2602 : decode code 2602 = .ok (.i2l, 1) := by decide +kernel
theorem dW_2603 : decode code 2603 = .ok (.lcmp, 1) := by decide +kernel
theorem dW_2604 : decode code 2604 = .ok (.ifCond .eq 5, 3) := by decide +kernel
theorem dW_2607 : decode code 2607 = .ok (.iconst 0, 1) := by decide +kernel
theorem dW_2608 : decode code 2608 = .ok (.ireturn, 1) := by decide +kernel
theorem dW_2609 : decode code 2609 = .ok (.goto 614, 3) := by decide +kernel
theorem dW_2612 : decode code 2612 = .ok (.aload_n 1, 1) := by decide +kernel
theorem dW_2613 : decode code 2613 = .ok (.aload_n 0, 1) := by decide +kernel
theorem dW_2614 : decode code 2614 = .ok (.iload 5, 2) := by decide +kernel
theorem dW_2616 : decode code 2616 = .ok (.iconst 1, 1) := by decide +kernel
theorem dW_2617 : decode code 2617 = .ok (.iadd, 1) := by decide +kernel
theorem dW_2618 : decode code 2618 = .ok (.iaload, 1) := by decide +kernel
theorem dW_2619 : decode code 2619 = .ok (.aload_n 0, 1) := by decide +kernel
theorem dW_2620 : decode code 2620 = .ok (.iload 5, 2) := by decide +kernel
theorem dW_2622 : decode code 2622 = .ok (.iconst 2, 1) := by decide +kernel
theorem dW_2623 : decode code 2623 = .ok (.iadd, 1) := by decide +kernel
theorem dW_2624 : decode code 2624 = .ok (.iaload, 1) := by decide +kernel
theorem dW_2625 : decode code 2625 = .ok (.aload_n 3, 1) := by decide +kernel
theorem dW_2626 : decode code 2626 = .ok (.invokestatic 324, 3) := by decide +kernel
theorem dW_2629 : decode code 2629 = .ok (.istore 6, 2) := by decide +kernel
theorem dW_2631 : decode code 2631 = .ok (.aload_n 2, 1) := by decide +kernel
theorem dW_2632 : decode code 2632 = .ok (.aload_n 0, 1) := by decide +kernel
theorem dW_2633 : decode code 2633 = .ok (.iload 5, 2) := by decide +kernel
theorem dW_2635 : decode code 2635 = .ok (.iconst 1, 1) := by decide +kernel
theorem dW_2636 : decode code 2636 = .ok (.iadd, 1) := by decide +kernel
theorem dW_2637 : decode code 2637 = .ok (.iaload, 1) := by decide +kernel
theorem dW_2638 : decode code 2638 = .ok (.aload_n 0, 1) := by decide +kernel
theorem dW_2639 : decode code 2639 = .ok (.iload 5, 2) := by decide +kernel
theorem dW_2641 : decode code 2641 = .ok (.iconst 2, 1) := by decide +kernel
theorem dW_2642 : decode code 2642 = .ok (.iadd, 1) := by decide +kernel
theorem dW_2643 : decode code 2643 = .ok (.iaload, 1) := by decide +kernel
theorem dW_2644 : decode code 2644 = .ok (.invokevirtual 326, 3) := by decide +kernel
theorem dW_2647 : decode code 2647 = .ok (.istore 7, 2) := by decide +kernel
theorem dW_2649 : decode code 2649 = .ok (.aload_n 2, 1) := by decide +kernel
theorem dW_2650 : decode code 2650 = .ok (.invokevirtual 157, 3) := by decide +kernel
theorem dW_2653 : decode code 2653 = .ok (.iload 6, 2) := by decide +kernel
theorem dW_2655 : decode code 2655 = .ok (.if_icmp .eq 5, 3) := by decide +kernel
theorem dW_2658 : decode code 2658 = .ok (.iconst 0, 1) := by decide +kernel
theorem dW_2659 : decode code 2659 = .ok (.ireturn, 1) := by decide +kernel
theorem dW_2660 : decode code 2660 = .ok (.iload 6, 2) := by decide +kernel
theorem dW_2662 : decode code 2662 = .ok (.ifCond .ne 15, 3) := by decide +kernel
theorem dW_2665 : decode code 2665 = .ok (.aload_n 3, 1) := by decide +kernel
theorem dW_2666 : decode code 2666 = .ok (.iconst 0, 1) := by decide +kernel
theorem dW_2667 : decode code 2667 = .ok (.laload, 1) := by decide +kernel
theorem dW_2668 : decode code 2668 = .ok (.iload 7, 2) := by decide +kernel
theorem dW_2670 : decode code 2670 = .ok (.i2l, 1) := by decide +kernel
theorem dW_2671 : decode code 2671 = .ok (.lcmp, 1) := by decide +kernel
theorem dW_2672 : decode code 2672 = .ok (.ifCond .eq 5, 3) := by decide +kernel
theorem dW_2675 : decode code 2675 = .ok (.iconst 0, 1) := by decide +kernel
theorem dW_2676 : decode code 2676 = .ok (.ireturn, 1) := by decide +kernel
theorem dW_2677 : decode code 2677 = .ok (.goto 546, 3) := by decide +kernel
theorem dW_2680 : decode code 2680 = .ok (.aload_n 1, 1) := by decide +kernel
theorem dW_2681 : decode code 2681 = .ok (.aload_n 0, 1) := by decide +kernel
theorem dW_2682 : decode code 2682 = .ok (.iload 5, 2) := by decide +kernel
theorem dW_2684 : decode code 2684 = .ok (.iconst 1, 1) := by decide +kernel
theorem dW_2685 : decode code 2685 = .ok (.iadd, 1) := by decide +kernel
theorem dW_2686 : decode code 2686 = .ok (.iaload, 1) := by decide +kernel
theorem dW_2687 : decode code 2687 = .ok (.aload_n 0, 1) := by decide +kernel
theorem dW_2688 : decode code 2688 = .ok (.iload 5, 2) := by decide +kernel
theorem dW_2690 : decode code 2690 = .ok (.iconst 2, 1) := by decide +kernel
theorem dW_2691 : decode code 2691 = .ok (.iadd, 1) := by decide +kernel
theorem dW_2692 : decode code 2692 = .ok (.iaload, 1) := by decide +kernel
theorem dW_2693 : decode code 2693 = .ok (.aload_n 3, 1) := by decide +kernel
theorem dW_2694 : decode code 2694 = .ok (.invokestatic 327, 3) := by decide +kernel
theorem dW_2697 : decode code 2697 = .ok (.istore 6, 2) := by decide +kernel
theorem dW_2699 : decode code 2699 = .ok (.aload_n 2, 1) := by decide +kernel
theorem dW_2700 : decode code 2700 = .ok (.aload_n 0, 1) := by decide +kernel
theorem dW_2701 : decode code 2701 = .ok (.iload 5, 2) := by decide +kernel
theorem dW_2703 : decode code 2703 = .ok (.iconst 1, 1) := by decide +kernel
theorem dW_2704 : decode code 2704 = .ok (.iadd, 1) := by decide +kernel
theorem dW_2705 : decode code 2705 = .ok (.iaload, 1) := by decide +kernel
theorem dW_2706 : decode code 2706 = .ok (.aload_n 0, 1) := by decide +kernel
theorem dW_2707 : decode code 2707 = .ok (.iload 5, 2) := by decide +kernel
theorem dW_2709 : decode code 2709 = .ok (.iconst 2, 1) := by decide +kernel
theorem dW_2710 : decode code 2710 = .ok (.iadd, 1) := by decide +kernel
theorem dW_2711 : decode code 2711 = .ok (.iaload, 1) := by decide +kernel
theorem dW_2712 : decode code 2712 = .ok (.invokevirtual 329, 3) := by decide +kernel
theorem dW_2715 : decode code 2715 = .ok (.istore 7, 2) := by decide +kernel
theorem dW_2717 : decode code 2717 = .ok (.aload_n 2, 1) := by decide +kernel
theorem dW_2718 : decode code 2718 = .ok (.invokevirtual 157, 3) := by decide +kernel
theorem dW_2721 : decode code 2721 = .ok (.iload 6, 2) := by decide +kernel
theorem dW_2723 : decode code 2723 = .ok (.if_icmp .eq 5, 3) := by decide +kernel
theorem dW_2726 : decode code 2726 = .ok (.iconst 0, 1) := by decide +kernel
theorem dW_2727 : decode code 2727 = .ok (.ireturn, 1) := by decide +kernel
theorem dW_2728 : decode code 2728 = .ok (.iload 6, 2) := by decide +kernel
theorem dW_2730 : decode code 2730 = .ok (.ifCond .ne 15, 3) := by decide +kernel
theorem dW_2733 : decode code 2733 = .ok (.aload_n 3, 1) := by decide +kernel
theorem dW_2734 : decode code 2734 = .ok (.iconst 0, 1) := by decide +kernel
theorem dW_2735 : decode code 2735 = .ok (.laload, 1) := by decide +kernel
theorem dW_2736 : decode code 2736 = .ok (.iload 7, 2) := by decide +kernel
theorem dW_2738 : decode code 2738 = .ok (.i2l, 1) := by decide +kernel
theorem dW_2739 : decode code 2739 = .ok (.lcmp, 1) := by decide +kernel
theorem dW_2740 : decode code 2740 = .ok (.ifCond .eq 5, 3) := by decide +kernel
theorem dW_2743 : decode code 2743 = .ok (.iconst 0, 1) := by decide +kernel
theorem dW_2744 : decode code 2744 = .ok (.ireturn, 1) := by decide +kernel
theorem dW_2745 : decode code 2745 = .ok (.goto 478, 3) := by decide +kernel
theorem dW_2748 : decode code 2748 = .ok (.aload_n 1, 1) := by decide +kernel
theorem dW_2749 : decode code 2749 = .ok (.aload_n 0, 1) := by decide +kernel
theorem dW_2750 : decode code 2750 = .ok (.iload 5, 2) := by decide +kernel
theorem dW_2752 : decode code 2752 = .ok (.iconst 1, 1) := by decide +kernel
theorem dW_2753 : decode code 2753 = .ok (.iadd, 1) := by decide +kernel
theorem dW_2754 : decode code 2754 = .ok (.iaload, 1) := by decide +kernel
theorem dW_2755 : decode code 2755 = .ok (.aload_n 0, 1) := by decide +kernel
theorem dW_2756 : decode code 2756 = .ok (.iload 5, 2) := by decide +kernel
theorem dW_2758 : decode code 2758 = .ok (.iconst 2, 1) := by decide +kernel
theorem dW_2759 : decode code 2759 = .ok (.iadd, 1) := by decide +kernel
theorem dW_2760 : decode code 2760 = .ok (.iaload, 1) := by decide +kernel
theorem dW_2761 : decode code 2761 = .ok (.aload_n 3, 1) := by decide +kernel
theorem dW_2762 : decode code 2762 = .ok (.invokestatic 330, 3) := by decide +kernel
theorem dW_2765 : decode code 2765 = .ok (.istore 6, 2) := by decide +kernel
theorem dW_2767 : decode code 2767 = .ok (.aload_n 2, 1) := by decide +kernel
theorem dW_2768 : decode code 2768 = .ok (.aload_n 0, 1) := by decide +kernel
theorem dW_2769 : decode code 2769 = .ok (.iload 5, 2) := by decide +kernel
theorem dW_2771 : decode code 2771 = .ok (.iconst 1, 1) := by decide +kernel
theorem dW_2772 : decode code 2772 = .ok (.iadd, 1) := by decide +kernel
theorem dW_2773 : decode code 2773 = .ok (.iaload, 1) := by decide +kernel
theorem dW_2774 : decode code 2774 = .ok (.aload_n 0, 1) := by decide +kernel
theorem dW_2775 : decode code 2775 = .ok (.iload 5, 2) := by decide +kernel
theorem dW_2777 : decode code 2777 = .ok (.iconst 2, 1) := by decide +kernel
theorem dW_2778 : decode code 2778 = .ok (.iadd, 1) := by decide +kernel
theorem dW_2779 : decode code 2779 = .ok (.iaload, 1) := by decide +kernel
theorem dW_2780 : decode code 2780 = .ok (.invokevirtual 332, 3) := by decide +kernel
theorem dW_2783 : decode code 2783 = .ok (.istore 7, 2) := by decide +kernel
theorem dW_2785 : decode code 2785 = .ok (.aload_n 2, 1) := by decide +kernel
theorem dW_2786 : decode code 2786 = .ok (.invokevirtual 157, 3) := by decide +kernel
theorem dW_2789 : decode code 2789 = .ok (.iload 6, 2) := by decide +kernel
theorem dW_2791 : decode code 2791 = .ok (.if_icmp .eq 5, 3) := by decide +kernel
theorem dW_2794 : decode code 2794 = .ok (.iconst 0, 1) := by decide +kernel
theorem dW_2795 : decode code 2795 = .ok (.ireturn, 1) := by decide +kernel
theorem dW_2796 : decode code 2796 = .ok (.iload 6, 2) := by decide +kernel
theorem dW_2798 : decode code 2798 = .ok (.ifCond .ne 15, 3) := by decide +kernel
theorem dW_2801 : decode code 2801 = .ok (.aload_n 3, 1) := by decide +kernel
theorem dW_2802 : decode code 2802 = .ok (.iconst 0, 1) := by decide +kernel
theorem dW_2803 : decode code 2803 = .ok (.laload, 1) := by decide +kernel
theorem dW_2804 : decode code 2804 = .ok (.iload 7, 2) := by decide +kernel
theorem dW_2806 : decode code 2806 = .ok (.i2l, 1) := by decide +kernel
theorem dW_2807 : decode code 2807 = .ok (.lcmp, 1) := by decide +kernel
theorem dW_2808 : decode code 2808 = .ok (.ifCond .eq 5, 3) := by decide +kernel
theorem dW_2811 : decode code 2811 = .ok (.iconst 0, 1) := by decide +kernel
theorem dW_2812 : decode code 2812 = .ok (.ireturn, 1) := by decide +kernel
theorem dW_2813 : decode code 2813 = .ok (.goto 410, 3) := by decide +kernel
theorem dW_2816 : decode code 2816 = .ok (.aload_n 1, 1) := by decide +kernel
theorem dW_2817 : decode code 2817 = .ok (.aload_n 0, 1) := by decide +kernel
theorem dW_2818 : decode code 2818 = .ok (.iload 5, 2) := by decide +kernel
theorem dW_2820 : decode code 2820 = .ok (.iconst 1, 1) := by decide +kernel
theorem dW_2821 : decode code 2821 = .ok (.iadd, 1) := by decide +kernel
theorem dW_2822 : decode code 2822 = .ok (.iaload, 1) := by decide +kernel
theorem dW_2823 : decode code 2823 = .ok (.aload_n 0, 1) := by decide +kernel
theorem dW_2824 : decode code 2824 = .ok (.iload 5, 2) := by decide +kernel
theorem dW_2826 : decode code 2826 = .ok (.iconst 2, 1) := by decide +kernel
theorem dW_2827 : decode code 2827 = .ok (.iadd, 1) := by decide +kernel
theorem dW_2828 : decode code 2828 = .ok (.iaload, 1) := by decide +kernel
theorem dW_2829 : decode code 2829 = .ok (.aload_n 3, 1) := by decide +kernel
theorem dW_2830 : decode code 2830 = .ok (.invokestatic 333, 3) := by decide +kernel
theorem dW_2833 : decode code 2833 = .ok (.istore 6, 2) := by decide +kernel
theorem dW_2835 : decode code 2835 = .ok (.aload_n 2, 1) := by decide +kernel
theorem dW_2836 : decode code 2836 = .ok (.aload_n 0, 1) := by decide +kernel
theorem dW_2837 : decode code 2837 = .ok (.iload 5, 2) := by decide +kernel
theorem dW_2839 : decode code 2839 = .ok (.iconst 1, 1) := by decide +kernel
theorem dW_2840 : decode code 2840 = .ok (.iadd, 1) := by decide +kernel
theorem dW_2841 : decode code 2841 = .ok (.iaload, 1) := by decide +kernel
theorem dW_2842 : decode code 2842 = .ok (.aload_n 0, 1) := by decide +kernel
theorem dW_2843 : decode code 2843 = .ok (.iload 5, 2) := by decide +kernel
theorem dW_2845 : decode code 2845 = .ok (.iconst 2, 1) := by decide +kernel
theorem dW_2846 : decode code 2846 = .ok (.iadd, 1) := by decide +kernel
theorem dW_2847 : decode code 2847 = .ok (.iaload, 1) := by decide +kernel
theorem dW_2848 : decode code 2848 = .ok (.invokevirtual 335, 3) := by decide +kernel
theorem dW_2851 : decode code 2851 = .ok (.istore 7, 2) := by decide +kernel
theorem dW_2853 : decode code 2853 = .ok (.aload_n 2, 1) := by decide +kernel
theorem dW_2854 : decode code 2854 = .ok (.invokevirtual 157, 3) := by decide +kernel
theorem dW_2857 : decode code 2857 = .ok (.iload 6, 2) := by decide +kernel
theorem dW_2859 : decode code 2859 = .ok (.if_icmp .eq 5, 3) := by decide +kernel
theorem dW_2862 : decode code 2862 = .ok (.iconst 0, 1) := by decide +kernel
theorem dW_2863 : decode code 2863 = .ok (.ireturn, 1) := by decide +kernel
theorem dW_2864 : decode code 2864 = .ok (.iload 6, 2) := by decide +kernel
theorem dW_2866 : decode code 2866 = .ok (.ifCond .ne 15, 3) := by decide +kernel
theorem dW_2869 : decode code 2869 = .ok (.aload_n 3, 1) := by decide +kernel
theorem dW_2870 : decode code 2870 = .ok (.iconst 0, 1) := by decide +kernel
theorem dW_2871 : decode code 2871 = .ok (.laload, 1) := by decide +kernel
theorem dW_2872 : decode code 2872 = .ok (.iload 7, 2) := by decide +kernel
theorem dW_2874 : decode code 2874 = .ok (.i2l, 1) := by decide +kernel
theorem dW_2875 : decode code 2875 = .ok (.lcmp, 1) := by decide +kernel
theorem dW_2876 : decode code 2876 = .ok (.ifCond .eq 5, 3) := by decide +kernel
theorem dW_2879 : decode code 2879 = .ok (.iconst 0, 1) := by decide +kernel
theorem dW_2880 : decode code 2880 = .ok (.ireturn, 1) := by decide +kernel
theorem dW_2881 : decode code 2881 = .ok (.goto 342, 3) := by decide +kernel
theorem dW_2884 : decode code 2884 = .ok (.aload_n 1, 1) := by decide +kernel
theorem dW_2885 : decode code 2885 = .ok (.aload_n 0, 1) := by decide +kernel
theorem dW_2886 : decode code 2886 = .ok (.iload 5, 2) := by decide +kernel
theorem dW_2888 : decode code 2888 = .ok (.iconst 1, 1) := by decide +kernel
theorem dW_2889 : decode code 2889 = .ok (.iadd, 1) := by decide +kernel
theorem dW_2890 : decode code 2890 = .ok (.iaload, 1) := by decide +kernel
theorem dW_2891 : decode code 2891 = .ok (.aload_n 3, 1) := by decide +kernel
theorem dW_2892 : decode code 2892 = .ok (.invokestatic 336, 3) := by decide +kernel
theorem dW_2895 : decode code 2895 = .ok (.istore 6, 2) := by decide +kernel
theorem dW_2897 : decode code 2897 = .ok (.aload_n 2, 1) := by decide +kernel
theorem dW_2898 : decode code 2898 = .ok (.aload_n 0, 1) := by decide +kernel
theorem dW_2899 : decode code 2899 = .ok (.iload 5, 2) := by decide +kernel
theorem dW_2901 : decode code 2901 = .ok (.iconst 1, 1) := by decide +kernel
theorem dW_2902 : decode code 2902 = .ok (.iadd, 1) := by decide +kernel
theorem dW_2903 : decode code 2903 = .ok (.iaload, 1) := by decide +kernel
theorem dW_2904 : decode code 2904 = .ok (.invokevirtual 338, 3) := by decide +kernel
theorem dW_2907 : decode code 2907 = .ok (.istore 7, 2) := by decide +kernel
theorem dW_2909 : decode code 2909 = .ok (.aload_n 2, 1) := by decide +kernel
theorem dW_2910 : decode code 2910 = .ok (.invokevirtual 157, 3) := by decide +kernel
theorem dW_2913 : decode code 2913 = .ok (.iload 6, 2) := by decide +kernel
theorem dW_2915 : decode code 2915 = .ok (.if_icmp .eq 5, 3) := by decide +kernel
theorem dW_2918 : decode code 2918 = .ok (.iconst 0, 1) := by decide +kernel
theorem dW_2919 : decode code 2919 = .ok (.ireturn, 1) := by decide +kernel
theorem dW_2920 : decode code 2920 = .ok (.iload 6, 2) := by decide +kernel
theorem dW_2922 : decode code 2922 = .ok (.ifCond .ne 15, 3) := by decide +kernel
theorem dW_2925 : decode code 2925 = .ok (.aload_n 3, 1) := by decide +kernel
theorem dW_2926 : decode code 2926 = .ok (.iconst 0, 1) := by decide +kernel
theorem dW_2927 : decode code 2927 = .ok (.laload, 1) := by decide +kernel
theorem dW_2928 : decode code 2928 = .ok (.iload 7, 2) := by decide +kernel
theorem dW_2930 : decode code 2930 = .ok (.i2l, 1) := by decide +kernel
theorem dW_2931 : decode code 2931 = .ok (.lcmp, 1) := by decide +kernel
theorem dW_2932 : decode code 2932 = .ok (.ifCond .eq 5, 3) := by decide +kernel
theorem dW_2935 : decode code 2935 = .ok (.iconst 0, 1) := by decide +kernel
theorem dW_2936 : decode code 2936 = .ok (.ireturn, 1) := by decide +kernel
theorem dW_2937 : decode code 2937 = .ok (.goto 286, 3) := by decide +kernel
theorem dW_2940 : decode code 2940 = .ok (.aload_n 1, 1) := by decide +kernel
theorem dW_2941 : decode code 2941 = .ok (.invokevirtual 339, 3) := by decide +kernel
theorem dW_2944 : decode code 2944 = .ok (.aload_n 2, 1) := by decide +kernel
theorem dW_2945 : decode code 2945 = .ok (.invokevirtual 342, 3) := by decide +kernel
theorem dW_2948 : decode code 2948 = .ok (.if_icmp .eq 275, 3) := by decide +kernel
theorem dW_2951 : decode code 2951 = .ok (.iconst 0, 1) := by decide +kernel
theorem dW_2952 : decode code 2952 = .ok (.ireturn, 1) := by decide +kernel
theorem dW_2953 : decode code 2953 = .ok (.aload_n 1, 1) := by decide +kernel
theorem dW_2954 : decode code 2954 = .ok (.aload_n 0, 1) := by decide +kernel
theorem dW_2955 : decode code 2955 = .ok (.iload 5, 2) := by decide +kernel
theorem dW_2957 : decode code 2957 = .ok (.iconst 1, 1) := by decide +kernel
theorem dW_2958 : decode code 2958 = .ok (.iadd, 1) := by decide +kernel
theorem dW_2959 : decode code 2959 = .ok (.iaload, 1) := by decide +kernel
theorem dW_2960 : decode code 2960 = .ok (.aload_n 3, 1) := by decide +kernel
theorem dW_2961 : decode code 2961 = .ok (.invokestatic 343, 3) := by decide +kernel
theorem dW_2964 : decode code 2964 = .ok (.istore 6, 2) := by decide +kernel
theorem dW_2966 : decode code 2966 = .ok (.aload_n 2, 1) := by decide +kernel
theorem dW_2967 : decode code 2967 = .ok (.aload_n 0, 1) := by decide +kernel
theorem dW_2968 : decode code 2968 = .ok (.iload 5, 2) := by decide +kernel
theorem dW_2970 : decode code 2970 = .ok (.iconst 1, 1) := by decide +kernel
theorem dW_2971 : decode code 2971 = .ok (.iadd, 1) := by decide +kernel
theorem dW_2972 : decode code 2972 = .ok (.iaload, 1) := by decide +kernel
theorem dW_2973 : decode code 2973 = .ok (.invokevirtual 345, 3) := by decide +kernel
theorem dW_2976 : decode code 2976 = .ok (.istore 7, 2) := by decide +kernel
theorem dW_2978 : decode code 2978 = .ok (.aload_n 2, 1) := by decide +kernel
theorem dW_2979 : decode code 2979 = .ok (.invokevirtual 157, 3) := by decide +kernel
theorem dW_2982 : decode code 2982 = .ok (.iload 6, 2) := by decide +kernel
theorem dW_2984 : decode code 2984 = .ok (.if_icmp .eq 5, 3) := by decide +kernel
theorem dW_2987 : decode code 2987 = .ok (.iconst 0, 1) := by decide +kernel
theorem dW_2988 : decode code 2988 = .ok (.ireturn, 1) := by decide +kernel
theorem dW_2989 : decode code 2989 = .ok (.iload 6, 2) := by decide +kernel
theorem dW_2991 : decode code 2991 = .ok (.ifCond .ne 15, 3) := by decide +kernel
theorem dW_2994 : decode code 2994 = .ok (.aload_n 3, 1) := by decide +kernel
theorem dW_2995 : decode code 2995 = .ok (.iconst 0, 1) := by decide +kernel
theorem dW_2996 : decode code 2996 = .ok (.laload, 1) := by decide +kernel
theorem dW_2997 : decode code 2997 = .ok (.iload 7, 2) := by decide +kernel
theorem dW_2999 : decode code 2999 = .ok (.i2l, 1) := by decide +kernel
theorem dW_3000 : decode code 3000 = .ok (.lcmp, 1) := by decide +kernel
theorem dW_3001 : decode code 3001 = .ok (.ifCond .eq 5, 3) := by decide +kernel
theorem dW_3004 : decode code 3004 = .ok (.iconst 0, 1) := by decide +kernel
theorem dW_3005 : decode code 3005 = .ok (.ireturn, 1) := by decide +kernel
theorem dW_3006 : decode code 3006 = .ok (.goto 217, 3) := by decide +kernel
theorem dW_3009 : decode code 3009 = .ok (.aload_n 1, 1) := by decide +kernel
theorem dW_3010 : decode code 3010 = .ok (.invokevirtual 346, 3) := by decide +kernel
theorem dW_3013 : decode code 3013 = .ok (.aload_n 2, 1) := by decide +kernel
theorem dW_3014 : decode code 3014 = .ok (.invokevirtual 349, 3) := by decide +kernel
theorem dW_3017 : decode code 3017 = .ok (.if_icmp .eq 206, 3) := by decide +kernel
theorem dW_3020 : decode code 3020 = .ok (.iconst 0, 1) := by decide +kernel
theorem dW_3021 : decode code 3021 = .ok (.ireturn, 1) := by decide +kernel
theorem dW_3022 : decode code 3022 = .ok (.aload_n 1, 1) := by decide +kernel
theorem dW_3023 : decode code 3023 = .ok (.aload_n 0, 1) := by decide +kernel
theorem dW_3024 : decode code 3024 = .ok (.iload 5, 2) := by decide +kernel
theorem dW_3026 : decode code 3026 = .ok (.iconst 1, 1) := by decide +kernel
theorem dW_3027 : decode code 3027 = .ok (.iadd, 1) := by decide +kernel
theorem dW_3028 : decode code 3028 = .ok (.iaload, 1) := by decide +kernel
theorem dW_3029 : decode code 3029 = .ok (.aload 4, 2) := by decide +kernel
theorem dW_3031 : decode code 3031 = .ok (.invokestatic 350, 3) := by decide +kernel
theorem dW_3034 : decode code 3034 = .ok (.istore 6, 2) := by decide +kernel
theorem dW_3036 : decode code 3036 = .ok (.aload_n 2, 1) := by decide +kernel
theorem dW_3037 : decode code 3037 = .ok (.aload_n 0, 1) := by decide +kernel
theorem dW_3038 : decode code 3038 = .ok (.iload 5, 2) := by decide +kernel
theorem dW_3040 : decode code 3040 = .ok (.iconst 1, 1) := by decide +kernel
theorem dW_3041 : decode code 3041 = .ok (.iadd, 1) := by decide +kernel
theorem dW_3042 : decode code 3042 = .ok (.iaload, 1) := by decide +kernel
theorem dW_3043 : decode code 3043 = .ok (.invokevirtual 353, 3) := by decide +kernel
theorem dW_3046 : decode code 3046 = .ok (.dstore 7, 2) := by decide +kernel
theorem dW_3048 : decode code 3048 = .ok (.aload_n 2, 1) := by decide +kernel
theorem dW_3049 : decode code 3049 = .ok (.invokevirtual 157, 3) := by decide +kernel
theorem dW_3052 : decode code 3052 = .ok (.iload 6, 2) := by decide +kernel
theorem dW_3054 : decode code 3054 = .ok (.if_icmp .eq 5, 3) := by decide +kernel
theorem dW_3057 : decode code 3057 = .ok (.iconst 0, 1) := by decide +kernel
theorem dW_3058 : decode code 3058 = .ok (.ireturn, 1) := by decide +kernel
theorem dW_3059 : decode code 3059 = .ok (.iload 6, 2) := by decide +kernel
theorem dW_3061 : decode code 3061 = .ok (.ifCond .ne 35, 3) := by decide +kernel
theorem dW_3064 : decode code 3064 = .ok (.aload 4, 2) := by decide +kernel
theorem dW_3066 : decode code 3066 = .ok (.iconst 0, 1) := by decide +kernel
theorem dW_3067 : decode code 3067 = .ok (.daload, 1) := by decide +kernel
theorem dW_3068 : decode code 3068 = .ok (.dload 7, 2) := by decide +kernel
theorem dW_3070 : decode code 3070 = .ok (.dcmp .l, 1) := by decide +kernel
theorem dW_3071 : decode code 3071 = .ok (.ifCond .eq 25, 3) := by decide +kernel
theorem dW_3074 : decode code 3074 = .ok (.aload 4, 2) := by decide +kernel
theorem dW_3076 : decode code 3076 = .ok (.iconst 0, 1) := by decide +kernel
theorem dW_3077 : decode code 3077 = .ok (.daload, 1) := by decide +kernel
theorem dW_3078 : decode code 3078 = .ok (.aload 4, 2) := by decide +kernel
theorem dW_3080 : decode code 3080 = .ok (.iconst 0, 1) := by decide +kernel
theorem dW_3081 : decode code 3081 = .ok (.daload, 1) := by decide +kernel
theorem dW_3082 : decode code 3082 = .ok (.dcmp .l, 1) := by decide +kernel
theorem dW_3083 : decode code 3083 = .ok (.ifCond .eq 11, 3) := by decide +kernel
theorem dW_3086 : decode code 3086 = .ok (.dload 7, 2) := by decide +kernel
theorem dW_3088 : decode code 3088 = .ok (.dload 7, 2) := by decide +kernel
theorem dW_3090 : decode code 3090 = .ok (.dcmp .l, 1) := by decide +kernel
theorem dW_3091 : decode code 3091 = .ok (.ifCond .ne 5, 3) := by decide +kernel
theorem dW_3094 : decode code 3094 = .ok (.iconst 0, 1) := by decide +kernel
theorem dW_3095 : decode code 3095 = .ok (.ireturn, 1) := by decide +kernel
theorem dW_3096 : decode code 3096 = .ok (.goto 127, 3) := by decide +kernel
theorem dW_3099 : decode code 3099 = .ok (.aload_n 1, 1) := by decide +kernel
theorem dW_3100 : decode code 3100 = .ok (.invokevirtual 354, 3) := by decide +kernel
theorem dW_3103 : decode code 3103 = .ok (.f2d, 1) := by decide +kernel
theorem dW_3104 : decode code 3104 = .ok (.dstore 6, 2) := by decide +kernel
theorem dW_3106 : decode code 3106 = .ok (.aload_n 2, 1) := by decide +kernel
theorem dW_3107 : decode code 3107 = .ok (.invokevirtual 358, 3) := by decide +kernel
theorem dW_3110 : decode code 3110 = .ok (.f2d, 1) := by decide +kernel
theorem dW_3111 : decode code 3111 = .ok (.dstore 8, 2) := by decide +kernel
theorem dW_3113 : decode code 3113 = .ok (.dload 6, 2) := by decide +kernel
theorem dW_3115 : decode code 3115 = .ok (.dload 8, 2) := by decide +kernel
theorem dW_3117 : decode code 3117 = .ok (.dcmp .l, 1) := by decide +kernel
theorem dW_3118 : decode code 3118 = .ok (.ifCond .eq 21, 3) := by decide +kernel
theorem dW_3121 : decode code 3121 = .ok (.dload 6, 2) := by decide +kernel
theorem dW_3123 : decode code 3123 = .ok (.dload 6, 2) := by decide +kernel
theorem dW_3125 : decode code 3125 = .ok (.dcmp .l, 1) := by decide +kernel
theorem dW_3126 : decode code 3126 = .ok (.ifCond .eq 11, 3) := by decide +kernel
theorem dW_3129 : decode code 3129 = .ok (.dload 8, 2) := by decide +kernel
theorem dW_3131 : decode code 3131 = .ok (.dload 8, 2) := by decide +kernel
theorem dW_3133 : decode code 3133 = .ok (.dcmp .l, 1) := by decide +kernel
theorem dW_3134 : decode code 3134 = .ok (.ifCond .ne 5, 3) := by decide +kernel
theorem dW_3137 : decode code 3137 = .ok (.iconst 0, 1) := by decide +kernel
theorem dW_3138 : decode code 3138 = .ok (.ireturn, 1) := by decide +kernel
theorem dW_3139 : decode code 3139 = .ok (.goto 84, 3) := by decide +kernel
theorem dW_3142 : decode code 3142 = .ok (.aload_n 1, 1) := by decide +kernel
theorem dW_3143 : decode code 3143 = .ok (.aload_n 0, 1) := by decide +kernel
theorem dW_3144 : decode code 3144 = .ok (.iload 5, 2) := by decide +kernel
theorem dW_3146 : decode code 3146 = .ok (.iconst 1, 1) := by decide +kernel
theorem dW_3147 : decode code 3147 = .ok (.iadd, 1) := by decide +kernel
theorem dW_3148 : decode code 3148 = .ok (.iaload, 1) := by decide +kernel
theorem dW_3149 : decode code 3149 = .ok (.aload_n 3, 1) := by decide +kernel
theorem dW_3150 : decode code 3150 = .ok (.invokestatic 359, 3) := by decide +kernel
theorem dW_3153 : decode code 3153 = .ok (.istore 6, 2) := by decide +kernel
theorem dW_3155 : decode code 3155 = .ok (.aload_n 2, 1) := by decide +kernel
theorem dW_3156 : decode code 3156 = .ok (.aload_n 0, 1) := by decide +kernel
theorem dW_3157 : decode code 3157 = .ok (.iload 5, 2) := by decide +kernel
theorem dW_3159 : decode code 3159 = .ok (.iconst 1, 1) := by decide +kernel
theorem dW_3160 : decode code 3160 = .ok (.iadd, 1) := by decide +kernel
theorem dW_3161 : decode code 3161 = .ok (.iaload, 1) := by decide +kernel
theorem dW_3162 : decode code 3162 = .ok (.invokevirtual 361, 3) := by decide +kernel
theorem dW_3165 : decode code 3165 = .ok (.istore 7, 2) := by decide +kernel
theorem dW_3167 : decode code 3167 = .ok (.aload_n 2, 1) := by decide +kernel
theorem dW_3168 : decode code 3168 = .ok (.invokevirtual 157, 3) := by decide +kernel
theorem dW_3171 : decode code 3171 = .ok (.iload 6, 2) := by decide +kernel
theorem dW_3173 : decode code 3173 = .ok (.if_icmp .eq 5, 3) := by decide +kernel
theorem dW_3176 : decode code 3176 = .ok (.iconst 0, 1) := by decide +kernel
theorem dW_3177 : decode code 3177 = .ok (.ireturn, 1) := by decide +kernel
theorem dW_3178 : decode code 3178 = .ok (.iload 6, 2) := by decide +kernel
theorem dW_3180 : decode code 3180 = .ok (.ifCond .ne 15, 3) := by decide +kernel
theorem dW_3183 : decode code 3183 = .ok (.aload_n 3, 1) := by decide +kernel
theorem dW_3184 : decode code 3184 = .ok (.iconst 0, 1) := by decide +kernel
theorem dW_3185 : decode code 3185 = .ok (.laload, 1) := by decide +kernel
theorem dW_3186 : decode code 3186 = .ok (.iload 7, 2) := by decide +kernel
theorem dW_3188 : decode code 3188 = .ok (.i2l, 1) := by decide +kernel
theorem dW_3189 : decode code 3189 = .ok (.lcmp, 1) := by decide +kernel
theorem dW_3190 : decode code 3190 = .ok (.ifCond .eq 5, 3) := by decide +kernel
theorem dW_3193 : decode code 3193 = .ok (.iconst 0, 1) := by decide +kernel
theorem dW_3194 : decode code 3194 = .ok (.ireturn, 1) := by decide +kernel
theorem dW_3195 : decode code 3195 = .ok (.goto 28, 3) := by decide +kernel
theorem dW_3198 : decode code 3198 = .ok (.aload_n 1, 1) := by decide +kernel
theorem dW_3199 : decode code 3199 = .ok (.aload_n 0, 1) := by decide +kernel
theorem dW_3200 : decode code 3200 = .ok (.iload 5, 2) := by decide +kernel
theorem dW_3202 : decode code 3202 = .ok (.iconst 1, 1) := by decide +kernel
theorem dW_3203 : decode code 3203 = .ok (.iadd, 1) := by decide +kernel
theorem dW_3204 : decode code 3204 = .ok (.iaload, 1) := by decide +kernel
theorem dW_3205 : decode code 3205 = .ok (.invokevirtual 362, 3) := by decide +kernel
theorem dW_3208 : decode code 3208 = .ok (.aload_n 2, 1) := by decide +kernel
theorem dW_3209 : decode code 3209 = .ok (.aload_n 0, 1) := by decide +kernel
theorem dW_3210 : decode code 3210 = .ok (.iload 5, 2) := by decide +kernel
theorem dW_3212 : decode code 3212 = .ok (.iconst 1, 1) := by decide +kernel
theorem dW_3213 : decode code 3213 = .ok (.iadd, 1) := by decide +kernel
theorem dW_3214 : decode code 3214 = .ok (.iaload, 1) := by decide +kernel
theorem dW_3215 : decode code 3215 = .ok (.invokevirtual 365, 3) := by decide +kernel
theorem dW_3218 : decode code 3218 = .ok (.if_icmp .eq 5, 3) := by decide +kernel
theorem dW_3221 : decode code 3221 = .ok (.iconst 0, 1) := by decide +kernel
theorem dW_3222 : decode code 3222 = .ok (.ireturn, 1) := by decide +kernel
theorem dW_3223 : decode code 3223 = .ok (.iinc 5 6, 3) := by decide +kernel
theorem dW_3226 : decode code 3226 = .ok (.goto (-3198), 3) := by decide +kernel
theorem dW_3229 : decode code 3229 = .ok (.iconst 1, 1) := by decide +kernel
theorem dW_3230 : decode code 3230 = .ok (.ireturn, 1) := by decide +kernel
