theorem dl_1810 : decode code 1810 = .ok (.if_icmp .eq 5, 3) := by decide +kernel
theorem dl_1813 : decode code 1813 = .ok (.iconst 0, 1) := by decide +kernel
theorem dl_1814 : decode code 1814 = .ok (.ireturn, 1) := by decide +kernel
theorem dl_1815 : decode code 1815 = .ok (.iload 5, 2) := by decide +kernel
theorem dl_1817 : decode code 1817 = .ok (.ifCond .ne 22, 3) := by decide +kernel
theorem dl_1820 : decode code 1820 = .ok (.aload_n 3, 1) := by decide +kernel
theorem dl_1821 : decode code 1821 = .ok (.iconst 0, 1) := by decide +kernel
theorem dl_1822 : decode code 1822 = .ok (.laload, 1) := by decide +kernel
theorem dl_1823 : decode code 1823 = .ok (.iload 6, 2) := by decide +kernel
theorem dl_1825 : decode code 1825 = .ok (.ifCond .eq 7, 3) := by decide +kernel
theorem dl_1828 : decode code 1828 = .ok (.lconst 1, 1) := by decide +kernel
theorem dl_1829 : decode code 1829 = .ok (.goto 4, 3) := by decide +kernel
theorem dl_1832 : decode code 1832 = .ok (.lconst 0, 1) := by decide +kernel
theorem dl_1833 : decode code 1833 = .ok (.lcmp, 1) := by decide +kernel
theorem dl_1834 : decode code 1834 = .ok (.ifCond .eq 5, 3) := by decide +kernel
theorem dl_1837 : decode code 1837 = .ok (.iconst 0, 1) := by decide +kernel
theorem dl_1838 : decode code 1838 = .ok (.ireturn, 1) := by decide +kernel
theorem dl_1839 : decode code 1839 = .ok (.goto 860, 3) := by decide +kernel
theorem dl_1842 : decode code 1842 = .ok (.aload_n 1, 1) := by decide +kernel
theorem dl_1843 : decode code 1843 = .ok (.invokevirtual 254, 3) := by decide +kernel
theorem dl_1846 : decode code 1846 = .ok (.aload_n 2, 1) := by decide +kernel
theorem dl_1847 : decode code 1847 = .ok (.invokevirtual 257, 3) := by decide +kernel
theorem dl_1850 : decode code 1850 = .ok (.if_icmp .eq 849, 3) := by decide +kernel
theorem dl_1853 : decode code 1853 = .ok (.iconst 0, 1) := by decide +kernel
theorem dl_1854 : decode code 1854 = .ok (.ireturn, 1) := by decide +kernel
theorem dl_1855 : decode code 1855 = .ok (.aload_n 1, 1) := by decide +kernel
theorem dl_1856 : decode code 1856 = .ok (.invokevirtual 258, 3) := by decide +kernel
theorem dl_1859 : decode code 1859 = .ok (.aload_n 2, 1) := by decide +kernel
theorem dl_1860 : decode code 1860 = .ok (.invokevirtual 261, 3) := by decide +kernel
theorem dl_1863 : decode code 1863 = .ok (.if_icmp .eq 836, 3) := by decide +kernel
theorem dl_1866 : decode code 1866 = .ok (.iconst 0, 1) := by decide +kernel
theorem dl_1867 : decode code 1867 = .ok (.ireturn, 1) := by decide +kernel
theorem dl_1868 : decode code 1868 = .ok (.aload_n 1, 1) := by decide +kernel
theorem dl_1869 : decode code 1869 = .ok (.aload_n 0, 1) := by decide +kernel
theorem dl_1870 : decode code 1870 = .ok (.iload 4, 2) := by decide +kernel
theorem dl_1872 : decode code 1872 = .ok (.iconst 1, 1) := by decide +kernel
theorem dl_1873 : decode code 1873 = .ok (.iadd, 1) := by decide +kernel
theorem dl_1874 : decode code 1874 = .ok (.iaload, 1) := by decide +kernel
theorem dl_1875 : decode code 1875 = .ok (.aload_n 0, 1) := by decide +kernel
theorem dl_1876 : decode code 1876 = .ok (.iload 4, 2) := by decide +kernel
theorem dl_1878 : decode code 1878 = .ok (.iconst 2, 1) := by decide +kernel
theorem dl_1879 : decode code 1879 = .ok (.iadd, 1) := by decide +kernel
theorem dl_1880 : decode code 1880 = .ok (.iaload, 1) := by decide +kernel
theorem dl_1881 : decode code 1881 = .ok (.aload_n 3, 1) := by decide +kernel
theorem dl_1882 : decode code 1882 = .ok (.invokestatic 262, 3) := by decide +kernel
theorem dl_1885 : decode code 1885 = .ok (.istore 5, 2) := by decide +kernel
theorem dl_1887 : decode code 1887 = .ok (.aload_n 2, 1) := by decide +kernel
theorem dl_1888 : decode code 1888 = .ok (.aload_n 0, 1) := by decide +kernel
theorem dl_1889 : decode code 1889 = .ok (.iload 4, 2) := by decide +kernel
theorem dl_1891 : decode code 1891 = .ok (.iconst 1, 1) := by decide +kernel
theorem dl_1892 : decode code 1892 = .ok (.iadd, 1) := by decide +kernel
theorem dl_1893 : decode code 1893 = .ok (.iaload, 1) := by decide +kernel
theorem dl_1894 : decode code 1894 = .ok (.aload_n 0, 1) := by decide +kernel
theorem dl_1895 : decode code 1895 = .ok (.iload 4, 2) := by decide +kernel
theorem dl_1897 : decode code 1897 = .ok (.iconst 2, 1) := by decide +kernel
theorem dl_1898 : decode code 1898 = .ok (.iadd, 1) := by decide +kernel
theorem dl_1899 : decode code 1899 = .ok (.iaload, 1) := by decide +kernel
theorem dl_1900 : decode code 1900 = .ok (.invokevirtual 264, 3) := by decide +kernel
theorem dl_1903 : decode code 1903 = .ok (.istore 6, 2) := by decide +kernel
theorem dl_1905 : decode code 1905 = .ok (.aload_n 2, 1) := by decide +kernel
theorem dl_1906 : decode code 1906 = .ok (.invokevirtual 131, 3) := by decide +kernel
theorem dl_1909 : decode code 1909 = .ok (.iload 5, 2) := by decide +kernel
theorem dl_1911 : decode code 1911 = .ok (.if_icmp .eq 5, 3) := by decide +kernel
theorem dl_1914 : decode code 1914 = .ok (.iconst 0, 1) := by decide +kernel
theorem dl_1915 : decode code 1915 = .ok (.ireturn, 1) := by decide +kernel
theorem dl_1916 : decode code 1916 = .ok (.iload 5, 2) := by decide +kernel
theorem dl_1918 : decode code 1918 = .ok (.ifCond .ne 15, 3) := by decide +kernel
theorem dl_1921 : decode code 1921 = .ok (.aload_n 3, 1) := by decide +kernel
theorem dl_1922 : decode code 1922 = .ok (.iconst 0, 1) := by decide +kernel
theorem dl_1923 : decode code 1923 = .ok (.laload, 1) := by decide +kernel
theorem dl_1924 : decode code 1924 = .ok (.iload 6, 2) := by decide +kernel
theorem dl_1926 : decode code 1926 = .ok (.i2l, 1) := by decide +kernel
theorem dl_1927 : decode code 1927 = .ok (.lcmp, 1) := by decide +kernel
theorem dl_1928 : decode code 1928 = .ok (.ifCond .eq 5, 3) := by decide +kernel
theorem dl_1931 : decode code 1931 = .ok (.iconst 0, 1) := by decide +kernel
theorem dl_1932 : decode code 1932 = .ok (.ireturn, 1) := by decide +kernel
theorem dl_1933 : decode code 1933 = .ok (.goto 766, 3) := by decide +kernel
theorem dl_1936 : decode code 1936 = .ok (.aload_n 1, 1) := by decide +kernel
theorem dl_1937 : decode code 1937 = .ok (.aload_n 0, 1) := by decide +kernel
theorem dl_1938 : decode code 1938 = .ok (.iload 4, 2) := by decide +kernel
theorem dl_1940 : decode code 1940 = .ok (.iconst 1, 1) := by decide +kernel
theorem dl_1941 : decode code 1941 = .ok (.iadd, 1) := by decide +kernel
theorem dl_1942 : decode code 1942 = .ok (.iaload, 1) := by decide +kernel
theorem dl_1943 : decode code 1943 = .ok (.aload_n 3, 1) := by decide +kernel
theorem dl_1944 : decode code 1944 = .ok (.invokestatic 265, 3) := by decide +kernel
theorem dl_1947 : decode code 1947 = .ok (.istore 5, 2) := by decide +kernel
theorem dl_1949 : decode code 1949 = .ok (.aload_n 2, 1) := by decide +kernel
theorem dl_1950 : decode code 1950 = .ok (.aload_n 0, 1) := by decide +kernel
theorem dl_1951 : decode code 1951 = .ok (.iload 4, 2) := by decide +kernel
theorem dl_1953 : decode code 1953 = .ok (.iconst 1, 1) := by decide +kernel
theorem dl_1954 : decode code 1954 = .ok (.iadd, 1) := by decide +kernel
theorem dl_1955 : decode code 1955 = .ok (.iaload, 1) := by decide +kernel
theorem dl_1956 : decode code 1956 = .ok (.invokevirtual 267, 3) := by decide +kernel
theorem dl_1959 : decode code 1959 = .ok (.istore 6, 2) := by decide +kernel
theorem dl_1961 : decode code 1961 = .ok (.aload_n 2, 1) := by decide +kernel
theorem dl_1962 : decode code 1962 = .ok (.invokevirtual 131, 3) := by decide +kernel
theorem dl_1965 : decode code 1965 = .ok (.iload 5, 2) := by decide +kernel
theorem dl_1967 : decode code 1967 = .ok (.if_icmp .eq 5, 3) := by decide +kernel
theorem dl_1970 : decode code 1970 = .ok (.iconst 0, 1) := by decide +kernel
theorem dl_1971 : decode code 1971 = .ok (.ireturn, 1) := by decide +kernel
theorem dl_1972 : decode code 1972 = .ok (.iload 5, 2) := by decide +kernel
theorem dl_1974 : decode code 1974 = .ok (.ifCond .ne 15, 3) := by decide +kernel
theorem dl_1977 : decode code 1977 = .ok (.aload_n 3, 1) := by decide +kernel
theorem dl_1978 : decode code 1978 = .ok (.iconst 0, 1) := by decide +kernel
theorem dl_1979 : decode code 1979 = .ok (.laload, 1) := by decide +kernel
theorem dl_1980 : decode code 1980 = .ok (.iload 6, 2) := by decide +kernel
theorem dl_1982 : decode code 1982 = .ok (.i2l, 1) := by decide +kernel
theorem dl_1983 : decode code 1983 = .ok (.lcmp, 1) := by decide +kernel
theorem dl_1984 : decode code 1984 = .ok (.ifCond .eq 5, 3) := by decide +kernel
theorem dl_1987 : decode code 1987 = .ok (.iconst 0, 1) := by decide +kernel
