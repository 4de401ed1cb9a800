theorem dl_1988 : decode code 1988 = .ok (.ireturn, 1) := by decide +kernel
theorem dl_1989 : decode code 1989 = .ok (.goto 710, 3) := by decide +kernel
theorem dl_1992 : decode code 1992 = .ok (.aload_n 1, 1) := by decide +kernel
theorem dl_1993 : decode code 1993 = .ok (.aload_n 0, 1) := by decide +kernel
theorem dl_1994 : decode code 1994 = .ok (.iload 4, 2) := by decide +kernel
theorem dl_1996 : decode code 1996 = .ok (.iconst 1, 1) := by decide +kernel
theorem dl_1997 : decode code 1997 = .ok (.iadd, 1) := by decide +kernel
theorem dl_1998 : decode code 1998 = .ok (.iaload, 1) := by decide +kernel
theorem dl_1999 : decode code 1999 = .ok (.aload_n 3, 1) := by decide +kernel
theorem dl_2000 : decode code 2000 = .ok (.invokestatic 268, 3) := by decide +kernel
theorem dl_2003 : decode code 2003 = .ok (.istore 5, 2) := by decide +kernel
theorem dl_2005 : decode code 2005 = .ok (.aload_n 2, 1) := by decide +kernel
theorem dl_2006 : decode code 2006 = .ok (.aload_n 0, 1) := by decide +kernel
theorem dl_2007 : decode code 2007 = .ok (.iload 4, 2) := by decide +kernel
theorem dl_2009 : decode code 2009 = .ok (.iconst 1, 1) := by decide +kernel
theorem dl_2010 : decode code 2010 = .ok (.iadd, 1) := by decide +kernel
theorem dl_2011 : decode code 2011 = .ok (.iaload, 1) := by decide +kernel
theorem dl_2012 : decode code 2012 = .ok (.invokevirtual 270, 3) := by decide +kernel
theorem dl_2015 : decode code 2015 = .ok (.istore 6, 2) := by decide +kernel
theorem dl_2017 : decode code 2017 = .ok (.aload_n 2, 1) := by decide +kernel
theorem dl_2018 : decode code 2018 = .ok (.invokevirtual 131, 3) := by decide +kernel
theorem dl_2021 : decode code 2021 = .ok (.iload 5, 2) := by decide +kernel
theorem dl_2023 : decode code 2023 = .ok (.if_icmp .eq 5, 3) := by decide +kernel
theorem dl_2026 : decode code 2026 = .ok (.iconst 0, 1) := by decide +kernel
theorem dl_2027 : decode code 2027 = .ok (.ireturn, 1) := by decide +kernel
theorem dl_2028 : decode code 2028 = .ok (.iload 5, 2) := by decide +kernel
theorem dl_2030 : decode code 2030 = .ok (.ifCond .ne 15, 3) := by decide +kernel
theorem dl_2033 : decode code 2033 = .ok (.aload_n 3, 1) := by decide +kernel
theorem dl_2034 : decode code 2034 = .ok (.iconst 0, 1) := by decide +kernel
theorem dl_2035 : decode code 2035 = .ok (.laload, 1) := by decide +kernel
theorem dl_2036 : decode code 2036 = .ok (.iload 6, 2) := by decide +kernel
theorem dl_2038 : decode code 2038 = .ok (.i2l, 1) := by decide +kernel
theorem dl_2039 : decode code 2039 = .ok (.lcmp, 1) := by decide +kernel
theorem dl_2040 : decode code 2040 = .ok (.ifCond .eq 5, 3) := by decide +kernel
theorem dl_2043 : decode code 2043 = .ok (.iconst 0, 1) := by decide +kernel
theorem dl_2044 : decode code 2044 = .ok (.ireturn, 1) := by decide +kernel
theorem dl_2045 : decode code 2045 = .ok (.goto 654, 3) := by decide +kernel
theorem dl_2048 : decode code 2048 = .ok (.aload_n 1, 1) := by decide +kernel
theorem dl_2049 : decode code 2049 = .ok (.invokevirtual 271, 3) := by decide +kernel
theorem dl_2052 : decode code 2052 = .ok (.aload_n 2, 1) := by decide +kernel
theorem dl_2053 : decode code 2053 = .ok (.invokevirtual 274, 3) := by decide +kernel
theorem dl_2056 : decode code 2056 = .ok (.if_icmp .eq 643, 3) := by decide +kernel
theorem dl_2059 : decode code 2059 = .ok (.iconst 0, 1) := by decide +kernel
theorem dl_2060 : decode code 2060 = .ok (.ireturn, 1) := by decide +kernel
theorem dl_2061 : decode code 2061 = .ok (.aload_n 1, 1) := by decide +kernel
theorem dl_2062 : decode code 2062 = .ok (.invokevirtual 275, 3) := by decide +kernel
theorem dl_2065 : decode code 2065 = .ok (.aload_n 2, 1) := by decide +kernel
theorem dl_2066 : decode code 2066 = .ok (.invokevirtual 278, 3) := by decide +kernel
theorem dl_2069 : decode code 2069 = .ok (.if_icmp .eq 630, 3) := by decide +kernel
theorem dl_2072 : decode code 2072 = .ok (.iconst 0, 1) := by decide +kernel
theorem dl_2073 : decode code 2073 = .ok (.ireturn, 1) := by decide +kernel
theorem dl_2074 : decode code 2074 = .ok (.aload_n 1, 1) := by decide +kernel
theorem dl_2075 : decode code 2075 = .ok (.aload_n 0, 1) := by decide +kernel
theorem dl_2076 : decode code 2076 = .ok (.iload 4, 2) := by decide +kernel
theorem dl_2078 : decode code 2078 = .ok (.iconst 1, 1) := by decide +kernel
theorem dl_2079 : decode code 2079 = .ok (.iadd, 1) := by decide +kernel
theorem dl_2080 : decode code 2080 = .ok (.iaload, 1) := by decide +kernel
theorem dl_2081 : decode code 2081 = .ok (.aload_n 3, 1) := by decide +kernel
theorem dl_2082 : decode code 2082 = .ok (.invokestatic 279, 3) := by decide +kernel
theorem dl_2085 : decode code 2085 = .ok (.istore 5, 2) := by decide +kernel
theorem dl_2087 : decode code 2087 = .ok (.aload_n 2, 1) := by decide +kernel
theorem dl_2088 : decode code 2088 = .ok (.aload_n 0, 1) := by decide +kernel
theorem dl_2089 : decode code 2089 = .ok (.iload 4, 2) := by decide +kernel
theorem dl_2091 : decode code 2091 = .ok (.iconst 1, 1) := by decide +kernel
theorem dl_2092 : decode code 2092 = .ok (.iadd, 1) := by decide +kernel
theorem dl_2093 : decode code 2093 = .ok (.iaload, 1) := by decide +kernel
theorem dl_2094 : decode code 2094 = .ok (.invokevirtual 281, 3) := by decide +kernel
theorem dl_2097 : decode code 2097 = .ok (.istore 6, 2) := by decide +kernel
theorem dl_2099 : decode code 2099 = .ok (.aload_n 2, 1) := by decide +kernel
theorem dl_2100 : decode code 2100 = .ok (.invokevirtual 131, 3) := by decide +kernel
theorem dl_2103 : decode code 2103 = .ok (.iload 5, 2) := by decide +kernel
theorem dl_2105 : decode code 2105 = .ok (.if_icmp .eq 5, 3) := by decide +kernel
theorem dl_2108 : decode code 2108 = .ok (.iconst 0, 1) := by decide +kernel
theorem dl_2109 : decode code 2109 = .ok (.ireturn, 1) := by decide +kernel
theorem dl_2110 : decode code 2110 = .ok (.iload 5, 2) := by decide +kernel
theorem dl_2112 : decode code 2112 = .ok (.ifCond .ne 15, 3) := by decide +kernel
theorem dl_2115 : decode code 2115 = .ok (.aload_n 3, 1) := by decide +kernel
theorem dl_2116 : decode code 2116 = .ok (.iconst 0, 1) := by decide +kernel
theorem dl_2117 : decode code 2117 = .ok (.laload, 1) := by decide +kernel
theorem dl_2118 : decode code 2118 = .ok (.iload 6, 2) := by decide +kernel
theorem dl_2120 : decode code 2120 = .ok (.i2l, 1) := by decide +kernel
theorem dl_2121 : decode code 2121 = .ok (.lcmp, 1) := by decide +kernel
theorem dl_2122 : decode code 2122 = .ok (.ifCond .eq 5, 3) := by decide +kernel
theorem dl_2125 : decode code 2125 = .ok (.iconst 0, 1) := by decide +kernel
theorem dl_2126 : decode code 2126 = .ok (.ireturn, 1) := by decide +kernel
theorem dl_2127 : decode code 2127 = .ok (.goto 572, 3) := by decide +kernel
theorem dl_2130 : decode code 2130 = .ok (.aload_n 1, 1) := by decide +kernel
theorem dl_2131 : decode code 2131 = .ok (.aload_n 0, 1) := by decide +kernel
theorem dl_2132 : decode code 2132 = .ok (.iload 4, 2) := by decide +kernel
theorem dl_2134 : decode code 2134 = .ok (.iconst 1, 1) := by decide +kernel
theorem dl_2135 : decode code 2135 = .ok (.iadd, 1) := by decide +kernel
theorem dl_2136 : decode code 2136 = .ok (.iaload, 1) := by decide +kernel
theorem dl_2137 : decode code 2137 = .ok (.aload_n 3, 1) := by decide +kernel
theorem dl_2138 : decode code 2138 = .ok (.invokestatic 282, 3) := by decide +kernel
theorem dl_2141 : decode code 2141 = .ok (.istore 5, 2) := by decide +kernel
theorem dl_2143 : decode code 2143 = .ok (.aload_n 2, 1) := by decide +kernel
theorem dl_2144 : decode code 2144 = .ok (.aload_n 0, 1) := by decide +kernel
theorem dl_2145 : decode code 2145 = .ok (.iload 4, 2) := by decide +kernel
theorem dl_2147 : decode code 2147 = .ok (.iconst 1, 1) := by decide +kernel
theorem dl_2148 : decode code 2148 = .ok (.iadd, 1) := by decide +kernel
theorem dl_2149 : decode code 2149 = .ok (.iaload, 1) := by decide +kernel
theorem dl_2150 : decode code 2150 = .ok (.invokevirtual 284, 3) := by decide +kernel
theorem dl_2153 : decode code 2153 = .ok (.istore 6, 2) := by decide +kernel
theorem dl_2155 : decode code 2155 = .ok (.aload_n 2, 1) := by decide +kernel
theorem dl_2156 : decode code 2156 = .ok (.invokevirtual 131, 3) := by decide +kernel
theorem dl_2159 : decode code 2159 = .ok (.iload 5, 2) := by decide +kernel
theorem dl_2161 : decode code 2161 = .ok (.if_icmp .eq 5, 3) := by decide +kernel
theorem dl_2164 : decode code 2164 = .ok (.iconst 0, 1) := by decide +kernel
theorem dl_2165 : decode code 2165 = .ok (.ireturn, 1) := by decide +kernel
theorem dl_2166 : decode code 2166 = .ok (.iload 5, 2) := by decide +kernel
