theorem dL_law_1905 : decode cL_law 1905 = .ok (.aload_n 1, 1) := by decide +kernel
theorem dL_law_1906 : decode cL_law 1906 = .ok (.aload_n 0, 1) := by decide +kernel
theorem dL_law_1907 : decode cL_law 1907 = .ok (.iload 4, 2) := by decide +kernel
theorem dL_law_1909 : decode cL_law 1909 = .ok (.iconst 1, 1) := by decide +kernel
theorem dL_law_1910 : decode cL_law 1910 = .ok (.iadd, 1) := by decide +kernel
theorem dL_law_1911 : decode cL_law 1911 = .ok (.iaload, 1) := by decide +kernel
theorem dL_law_1912 : decode cL_law 1912 = .ok (.aload_n 0, 1) := by decide +kernel
theorem dL_law_1913 : decode cL_law 1913 = .ok (.iload 4, 2) := by decide +kernel
theorem dL_law_1915 : decode cL_law 1915 = .ok (.iconst 2, 1) := by decide +kernel
theorem dL_law_1916 : decode cL_law 1916 = .ok (.iadd, 1) := by decide +kernel
theorem dL_law_1917 : decode cL_law 1917 = .ok (.iaload, 1) := by decide +kernel
theorem dL_law_1918 : decode cL_law 1918 = .ok (.aload_n 3, 1) := by decide +kernel
theorem dL_law_1919 : decode cL_law 1919 = .ok (.invokestatic 274, 3) := by decide +kernel
theorem dL_law_1922 : decode cL_law 1922 = .ok (.istore 5, 2) := by decide +kernel
theorem dL_law_1924 : decode cL_law 1924 = .ok (.aload_n 2, 1) := by decide +kernel
theorem dL_law_1925 : decode cL_law 1925 = .ok (.aload_n 0, 1) := by decide +kernel
theorem dL_law_1926 : decode cL_law 1926 = .ok (.iload 4, 2) := by decide +kernel
theorem dL_law_1928 : decode cL_law 1928 = .ok (.iconst 1, 1) := by decide +kernel
theorem dL_law_1929 : decode cL_law 1929 = .ok (.iadd, 1) := by decide +kernel
theorem dL_law_1930 : decode cL_law 1930 = .ok (.iaload, 1) := by decide +kernel
theorem dL_law_1931 : decode cL_law 1931 = .ok (.aload_n 0, 1) := by decide +kernel
theorem dL_law_1932 : decode cL_law 1932 = .ok (.iload 4, 2) := by decide +kernel
theorem dL_law_1934 : decode cL_law 1934 = .ok (.iconst 2, 1) := by decide +kernel
theorem dL_law_1935 : decode cL_law 1935 = .ok (.iadd, 1) := by decide +kernel
theorem dL_law_1936 : decode cL_law 1936 = .ok (.iaload, 1) := by decide +kernel
theorem dL_law_1937 : decode cL_law 1937 = .ok (.invokevirtual 276, 3) := by decide +kernel
theorem dL_law_1940 : decode cL_law 1940 = .ok (.istore 6, 2) := by decide +kernel
theorem dL_law_1942 : decode cL_law 1942 = .ok (.aload_n 2, 1) := by decide +kernel
theorem dL_law_1943 : decode cL_law 1943 = .ok (.invokevirtual 178, 3) := by decide +kernel
theorem dL_law_1946 : decode cL_law 1946 = .ok (.iload 5, 2) := by decide +kernel
theorem dL_law_1948 : decode cL_law 1948 = .ok (.if_icmp .eq 5, 3) := by decide +kernel
theorem dL_law_1953 : decode cL_law 1953 = .ok (.iload 5, 2) := by decide +kernel
theorem dL_law_1955 : decode cL_law 1955 = .ok (.ifCond .ne 15, 3) := by decide +kernel
theorem dL_law_1958 : decode cL_law 1958 = .ok (.aload_n 3, 1) := by decide +kernel
theorem dL_law_1959 : decode cL_law 1959 = .ok (.iconst 0, 1) := by decide +kernel
theorem dL_law_1960 : decode cL_law 1960 = .ok (.laload, 1) := by decide +kernel
theorem dL_law_1961 : decode cL_law 1961 = .ok (.iload 6, 2) := by decide +kernel
theorem dL_law_1963 : decode cL_law 1963 = .ok (.i2l, 1) := by decide +kernel
theorem dL_law_1964 : decode cL_law 1964 = .ok (.lcmp, 1) := by decide +kernel
theorem dL_law_1965 : decode cL_law 1965 = .ok (.ifCond .eq 5, 3) := by decide +kernel
theorem dL_law_1970 : decode cL_law 1970 = .ok (.goto 1453, 3) := by decide +kernel
theorem dL_law_1973 : decode cL_law 1973 = .ok (.aload_n 1, 1) := by decide +kernel
theorem dL_law_1974 : decode cL_law 1974 = .ok (.aload_n 0, 1) := by decide +kernel
theorem dL_law_1975 : decode cL_law 1975 = .ok (.iload 4, 2) := by decide +kernel
theorem dL_law_1977 : decode cL_law 1977 = .ok (.iconst 1, 1) := by decide +kernel
theorem dL_law_1978 : decode cL_law 1978 = .ok (.iadd, 1) := by decide +kernel
theorem dL_law_1979 : decode cL_law 1979 = .ok (.iaload, 1) := by decide +kernel
theorem dL_law_1980 : decode cL_law 1980 = .ok (.aload_n 0, 1) := by decide +kernel
theorem dL_law_1981 : decode cL_law 1981 = .ok (.iload 4, 2) := by decide +kernel
theorem dL_law_1983 : decode cL_law 1983 = .ok (.iconst 2, 1) := by decide +kernel
theorem dL_law_1984 : decode cL_law 1984 = .ok (.iadd, 1) := by decide +kernel
theorem dL_law_1985 : decode cL_law 1985 = .ok (.iaload, 1) := by decide +kernel
theorem dL_law_1986 : decode cL_law 1986 = .ok (.aload_n 3, 1) := by decide +kernel
theorem dL_law_1987 : decode cL_law 1987 = .ok (.invokestatic 277, 3) := by decide +kernel
theorem dL_law_1990 : decode cL_law 1990 = .ok (.istore 5, 2) := by decide +kernel
theorem dL_law_1992 : decode cL_law 1992 = .ok (.aload_n 2, 1) := by decide +kernel
theorem dL_law_1993 : decode cL_law 1993 = .ok (.aload_n 0, 1) := by decide +kernel
theorem dL_law_1994 : decode cL_law 1994 = .ok (.iload 4, 2) := by decide +kernel
theorem dL_law_1996 : decode cL_law 1996 = .ok (.iconst 1, 1) := by decide +kernel
theorem dL_law_1997 : decode cL_law 1997 = .ok (.iadd, 1) := by decide +kernel
theorem dL_law_1998 : decode cL_law 1998 = .ok (.iaload, 1) := by decide +kernel
theorem dL_law_1999 : decode cL_law 1999 = .ok (.aload_n 0, 1) := by decide +kernel
theorem dL_law_2000 : decode cL_law 2000 = .ok (.iload 4, 2) := by decide +kernel
theorem dL_law_2002 : decode cL_law 2002 = .ok (.iconst 2, 1) := by decide +kernel
theorem dL_law_2003 : decode cL_law 2003 = .ok (.iadd, 1) := by decide +kernel
theorem dL_law_2004 : decode cL_law 2004 = .ok (.iaload, 1) := by decide +kernel
theorem dL_law_2005 : decode cL_law 2005 = .ok (.invokevirtual 279, 3) := by decide +kernel
theorem dL_law_2008 : decode cL_law 2008 = .ok (.istore 6, 2) := by decide +kernel
theorem dL_law_2010 : decode cL_law 2010 = .ok (.aload_n 2, 1) := by decide +kernel
theorem dL_law_2011 : decode cL_law 2011 = .ok (.invokevirtual 178, 3) := by decide +kernel
theorem dL_law_2014 : decode cL_law 2014 = .ok (.iload 5, 2) := by decide +kernel
theorem dL_law_2016 : decode cL_law 2016 = .ok (.if_icmp .eq 5, 3) := by decide +kernel
theorem dL_law_2021 : decode cL_law 2021 = .ok (.iload 5, 2) := by decide +kernel
theorem dL_law_2023 : decode cL_law 2023 = .ok (.ifCond .ne 15, 3) := by decide +kernel
theorem dL_law_2026 : decode cL_law 2026 = .ok (.aload_n 3, 1) := by decide +kernel
theorem dL_law_2027 : decode cL_law 2027 = .ok (.iconst 0, 1) := by decide +kernel
theorem dL_law_2028 : decode cL_law 2028 = .ok (.laload, 1) := by decide +kernel
theorem dL_law_2029 : decode cL_law 2029 = .ok (.iload 6, 2) := by decide +kernel
theorem dL_law_2031 : decode cL_law 2031 = .ok (.i2l, 1) := by decide +kernel
theorem dL_law_2032 : decode cL_law 2032 = .ok (.lcmp, 1) := by decide +kernel
theorem dL_law_2033 : decode cL_law 2033 = .ok (.ifCond .eq 5, 3) := by decide +kernel
theorem dL_law_2038 : decode cL_law 2038 = .ok (.goto 1385, 3) := by decide +kernel
theorem dL_law_2041 : decode cL_law 2041 = .ok (.aload_n 1, 1) := by decide +kernel
theorem dL_law_2042 : decode cL_law 2042 = .ok (.aload_n 0, 1) := by decide +kernel
theorem dL_law_2043 : decode cL_law 2043 = .ok (.iload 4, 2) := by decide +kernel
theorem dL_law_2045 : decode cL_law 2045 = .ok (.iconst 1, 1) := by decide +kernel
theorem dL_law_2046 : decode cL_law 2046 = .ok (.iadd, 1) := by decide +kernel
theorem dL_law_2047 : decode cL_law 2047 = .ok (.iaload, 1) := by decide +kernel
theorem dL_law_2048 : decode cL_law 2048 = .ok (.aload_n 0, 1) := by decide +kernel
theorem dL_law_2049 : decode cL_law 2049 = .ok (.iload 4, 2) := by decide +kernel
theorem dL_law_2051 : decode cL_law 2051 = .ok (.iconst 2, 1) := by decide +kernel
theorem dL_law_2052 : decode cL_law 2052 = .ok (.iadd, 1) := by decide +kernel
theorem dL_law_2053 : decode cL_law 2053 = .ok (.iaload, 1) := by decide +kernel
theorem dL_law_2054 : decode cL_law 2054 = .ok (.aload_n 3, 1) := by decide +kernel
theorem dL_law_2055 : decode cL_law 2055 = .ok (.invokestatic 280, 3) := by decide +kernel
theorem dL_law_2058 : decode cL_law 2058 = .ok (.istore 5, 2) := by decide +kernel
theorem dL_law_2060 : decode cL_law 2060 = .ok (.aload_n 2, 1) := by decide +kernel
theorem dL_law_2061 : decode cL_law 2061 = .ok (.aload_n 0, 1) := by decide +kernel
theorem dL_law_2062 : decode cL_law 2062 = .ok (.iload 4, 2) := by decide +kernel
theorem dL_law_2064 : decode cL_law 2064 = .ok (.iconst 1, 1) := by decide +kernel
theorem dL_law_2065 : decode cL_law 2065 = .ok (.iadd, 1) := by decide +kernel
theorem dL_law_2066 : decode cL_law 2066 = .ok (.iaload, 1) := by decide +kernel
theorem dL_law_2067 : decode cL_law 2067 = .ok (.aload_n 0, 1) := by decide +kernel
theorem dL_law_2068 : decode cL_law 2068 = .ok (.iload 4, 2) := by decide +kernel
theorem dL_law_2070 : decode cL_law 2070 = .ok (.iconst 2, 1) := by decide +kernel
theorem dL_law_2071 : decode cL_law 2071 = .ok (.iadd, 1) := by decide +kernel
theorem dL_law_2072 : decode cL_law 2072 = .ok (.iaload, 1) := by decide +kernel
theorem dL_law_2073 : decode cL_law 2073 = .ok (.invokevirtual 282, 3) := by decide +kernel
theorem dL_law_2076 : decode cL_law 2076 = .ok (.istore 6, 2) := by decide +kernel
theorem dL_law_2078 : decode cL_law 2078 = .ok (.aload_n 2, 1) := by decide +kernel
theorem dL_law_2079 : decode cL_law 2079 = .ok (.invokevirtual 178, 3) := by decide +kernel
theorem dL_law_2082 : decode cL_law 2082 = .ok (.iload 5, 2) := by decide +kernel
theorem dL_law_2084 : decode cL_law 2084 = .ok (.if_icmp .eq 5, 3) := by decide +kernel
theorem dL_law_2089 : decode cL_law 2089 = .ok (.iload 5, 2) := by decide +kernel
theorem dL_law_2091 : decode cL_law 2091 = .ok (.ifCond .ne 15, 3) := by decide +kernel
theorem dL_law_2094 : decode cL_law 2094 = .ok (.aload_n 3, 1) := by decide +kernel
theorem dL_law_2095 : decode cL_law 2095 = .ok (.iconst 0, 1) := by decide +kernel
theorem dL_law_2096 : decode cL_law 2096 = .ok (.laload, 1) := by decide +kernel
theorem dL_law_2097 : decode cL_law 2097 = .ok (.iload 6, 2) := by decide +kernel
theorem dL_law_2099 : decode cL_law 2099 = .ok (.i2l, 1) := by decide +kernel
theorem dL_law_2100 : decode cL_law 2100 = .ok (.lcmp, 1) := by decide +kernel
theorem dL_law_2101 : decode cL_law 2101 = .ok (.ifCond .eq 5, 3) := by decide +kernel
theorem dL_law_2106 : decode cL_law 2106 = .ok (.goto 1317, 3) := by decide +kernel
theorem dL_law_2109 : decode cL_law 2109 = .ok (.aload_n 1, 1) := by decide +kernel
theorem dL_law_2110 : decode cL_law 2110 = .ok (.aload_n 0, 1) := by decide +kernel
theorem dL_law_2111 : decode cL_law 2111 = .ok (.iload 4, 2) := by decide +kernel
theorem dL_law_2113 : decode cL_law 2113 = .ok (.iconst 1, 1) := by decide +kernel
theorem dL_law_2114 : decode cL_law 2114 = .ok (.iadd, 1) := by decide +kernel
theorem dL_law_2115 : decode cL_law 2115 = .ok (.iaload, 1) := by decide +kernel
theorem dL_law_2116 : decode cL_law 2116 = .ok (.aload_n 3, 1) := by decide +kernel
theorem dL_law_2117 : decode cL_law 2117 = .ok (.invokestatic 283, 3) := by decide +kernel
theorem dL_law_2120 : decode cL_law 2120 = .ok (.istore 5, 2) := by decide +kernel
theorem dL_law_2122 : decode cL_law 2122 = .ok (.aload_n 2, 1) := by decide +kernel
theorem dL_law_2123 : decode cL_law 2123 = .ok (.aload_n 0, 1) := by decide +kernel
theorem dL_law_2124 : decode cL_law 2124 = .ok (.iload 4, 2) := by decide +kernel
theorem dL_law_2126 : decode cL_law 2126 = .ok (.iconst 1, 1) := by decide +kernel
theorem dL_law_2127 : decode cL_law 2127 = .ok (.iadd, 1) := by decide +kernel
theorem dL_law_2128 : decode cL_law 2128 = .ok (.iaload, 1) := by decide +kernel
theorem dL_law_2129 : decode cL_law 2129 = .ok (.invokevirtual 285, 3) := by decide +kernel
theorem dL_law_2132 : decode cL_law 2132 = .ok (.istore 6, 2) := by decide +kernel
theorem dL_law_2134 : decode cL_law 2134 = .ok (.aload_n 2, 1) := by decide +kernel
theorem dL_law_2135 : decode cL_law 2135 = .ok (.invokevirtual 178, 3) := by decide +kernel
theorem dL_law_2138 : decode cL_law 2138 = .ok (.iload 5, 2) := by decide +kernel
theorem dL_law_2140 : decode cL_law 2140 = .ok (.if_icmp .eq 5, 3) := by decide +kernel
theorem dL_law_2145 : decode cL_law 2145 = .ok (.iload 5, 2) := by decide +kernel
theorem dL_law_2147 : decode cL_law 2147 = .ok (.ifCond .ne 15, 3) := by decide +kernel
theorem dL_law_2150 : decode cL_law 2150 = .ok (.aload_n 3, 1) := by decide +kernel
theorem dL_law_2151 : decode cL_law 2151 = .ok (.iconst 0, 1) := by decide +kernel
theorem dL_law_2152 : decode cL_law 2152 = .ok (.laload, 1) := by decide +kernel
theorem dL_law_2153 : decode cL_law 2153 = .ok (.iload 6, 2) := by decide +kernel
theorem dL_law_2155 : decode cL_law 2155 = .ok (.i2l, 1) := by decide +kernel
theorem dL_law_2156 : decode cL_law 2156 = .ok (.lcmp, 1) := by decide +kernel
theorem dL_law_2157 : decode cL_law 2157 = .ok (.ifCond .eq 5, 3) := by decide +kernel
theorem dL_law_2162 : decode cL_law 2162 = .ok (.goto 1261, 3) := by decide +kernel
theorem dL_law_2165 : decode cL_law 2165 = .ok (.aload_n 1, 1) := by decide +kernel
theorem dL_law_2166 : decode cL_law 2166 = .ok (.aload_n 0, 1) := by decide +kernel
theorem dL_law_2167 : decode cL_law 2167 = .ok (.iload 4, 2) := by decide +kernel
theorem dL_law_2169 : decode cL_law 2169 = .ok (.iconst 1, 1) := by decide +kernel
theorem dL_law_2170 : decode cL_law 2170 = .ok (.iadd, 1) := by decide +kernel
theorem dL_law_2171 : decode cL_law 2171 = .ok (.iaload, 1) := by decide +kernel
theorem dL_law_2172 : decode cL_law 2172 = .ok (.aload_n 3, 1) := by decide +kernel
theorem dL_law_2173 : decode cL_law 2173 = .ok (.invokestatic 286, 3) := by decide +kernel
theorem dL_law_2176 : decode cL_law 2176 = .ok (.istore 5, 2) := by decide +kernel
theorem dL_law_2178 : decode cL_law 2178 = .ok (.aload_n 2, 1) := by decide +kernel
theorem dL_law_2179 : decode cL_law 2179 = .ok (.aload_n 0, 1) := by decide +kernel
theorem dL_law_2180 : decode cL_law 2180 = .ok (.iload 4, 2) := by decide +kernel
theorem dL_law_2182 : decode cL_law 2182 = .ok (.iconst 1, 1) := by decide +kernel
theorem dL_law_2183 : decode cL_law 2183 = .ok (.iadd, 1) := by decide +kernel
theorem dL_law_2184 : decode cL_law 2184 = .ok (.iaload, 1) := by decide +kernel
theorem dL_law_2185 : decode cL_law 2185 = .ok (.invokevirtual 288, 3) := by decide +kernel
theorem dL_law_2188 : decode cL_law 2188 = .ok (.istore 6, 2) := by decide +kernel
theorem dL_law_2190 : decode cL_law 2190 = .ok (.aload_n 2, 1) := by decide +kernel
theorem dL_law_2191 : decode cL_law 2191 = .ok (.invokevirtual 178, 3) := by decide +kernel
theorem dL_law_2194 : decode cL_law 2194 = .ok (.iload 5, 2) := by decide +kernel
theorem dL_law_2196 : decode cL_law 2196 = .ok (.if_icmp .eq 5, 3) := by decide +kernel
theorem dL_law_2201 : decode cL_law 2201 = .ok (.iload 5, 2) := by decide +kernel
theorem dL_law_2203 : decode cL_law 2203 = .ok (.ifCond .ne 15, 3) := by decide +kernel
theorem dL_law_2206 : decode cL_law 2206 = .ok (.aload_n 3, 1) := by decide +kernel
theorem dL_law_2207 : decode cL_law 2207 = .ok (.iconst 0, 1) := by decide +kernel
theorem dL_law_2208 : decode cL_law 2208 = .ok (.laload, 1) := by decide +kernel
theorem dL_law_2209 : decode cL_law 2209 = .ok (.iload 6, 2) := by decide +kernel
theorem dL_law_2211 : decode cL_law 2211 = .ok (.i2l, 1) := by decide +kernel
theorem dL_law_2212 : decode cL_law 2212 = .ok (.lcmp, 1) := by decide +kernel
theorem dL_law_2213 : decode cL_law 2213 = .ok (.ifCond .eq 5, 3) := by decide +kernel
theorem dL_law_2218 : decode cL_law 2218 = .ok (.goto 1205, 3) := by decide +kernel
theorem dL_law_2221 : decode cL_law 2221 = .ok (.aload_n 1, 1) := by decide +kernel
theorem dL_law_2222 : decode cL_law 2222 = .ok (.aload_n 0, 1) := by decide +kernel
theorem dL_law_2223 : decode cL_law 2223 = .ok (.iload 4, 2) := by decide +kernel
theorem dL_law_2225 : decode cL_law 2225 = .ok (.iconst 1, 1) := by decide +kernel
theorem dL_law_2226 : decode cL_law 2226 = .ok (.iadd, 1) := by decide +kernel
theorem dL_law_2227 : decode cL_law 2227 = .ok (.iaload, 1) := by decide +kernel
theorem dL_law_2228 : decode cL_law 2228 = .ok (.invokevirtual 289, 3) := by decide +kernel
theorem dL_law_2231 : decode cL_law 2231 = .ok (.aload_n 2, 1) := by decide +kernel
theorem dL_law_2232 : decode cL_law 2232 = .ok (.aload_n 0, 1) := by decide +kernel
theorem dL_law_2233 : decode cL_law 2233 = .ok (.iload 4, 2) := by decide +kernel
theorem dL_law_2235 : decode cL_law 2235 = .ok (.iconst 1, 1) := by decide +kernel
theorem dL_law_2236 : decode cL_law 2236 = .ok (.iadd, 1) := by decide +kernel
theorem dL_law_2237 : decode cL_law 2237 = .ok (.iaload, 1) := by decide +kernel
theorem dL_law_2238 : decode cL_law 2238 = .ok (.invokevirtual 292, 3) := by decide +kernel
theorem dL_law_2241 : decode cL_law 2241 = .ok (.if_icmp .eq 1182, 3) := by decide +kernel
theorem dL_law_2246 : decode cL_law 2246 = .ok (.aload_n 1, 1) := by decide +kernel
theorem dL_law_2247 : decode cL_law 2247 = .ok (.aload_n 0, 1) := by decide +kernel
theorem dL_law_2248 : decode cL_law 2248 = .ok (.iload 4, 2) := by decide +kernel
theorem dL_law_2250 : decode cL_law 2250 = .ok (.iconst 1, 1) := by decide +kernel
theorem dL_law_2251 : decode cL_law 2251 = .ok (.iadd, 1) := by decide +kernel
theorem dL_law_2252 : decode cL_law 2252 = .ok (.iaload, 1) := by decide +kernel
theorem dL_law_2253 : decode cL_law 2253 = .ok (.aload_n 0, 1) := by decide +kernel
theorem dL_law_2254 : decode cL_law 2254 = .ok (.iload 4, 2) := by decide +kernel
theorem dL_law_2256 : decode cL_law 2256 = .ok (.iconst 2, 1) := by decide +kernel
theorem dL_law_2257 : decode cL_law 2257 = .ok (.iadd, 1) := by decide +kernel
theorem dL_law_2258 : decode cL_law 2258 = .ok (.iaload, 1) := by decide +kernel
theorem dL_law_2259 : decode cL_law 2259 = .ok (.aload_n 3, 1) := by decide +kernel
theorem dL_law_2260 : decode cL_law 2260 = .ok (.invokestatic 293, 3) := by decide +kernel
theorem dL_law_2263 : decode cL_law 2263 = .ok (.istore 5, 2) := by decide +kernel
theorem dL_law_2265 : decode cL_law 2265 = .ok (.aload_n 2, 1) := by decide +kernel
theorem dL_law_2266 : decode cL_law 2266 = .ok (.aload_n 0, 1) := by decide +kernel
theorem dL_law_2267 : decode cL_law 2267 = .ok (.iload 4, 2) := by decide +kernel
theorem dL_law_2269 : decode cL_law 2269 = .ok (.iconst 1, 1) := by decide +kernel
theorem dL_law_2270 : decode cL_law 2270 = .ok (.iadd, 1) := by decide +kernel
theorem dL_law_2271 : decode cL_law 2271 = .ok (.iaload, 1) := by decide +kernel
theorem dL_law_2272 : decode cL_law 2272 = .ok (.aload_n 0, 1) := by decide +kernel
theorem dL_law_2273 : decode cL_law 2273 = .ok (.iload 4, 2) := by decide +kernel
theorem dL_law_2275 : decode cL_law 2275 = .ok (.iconst 2, 1) := by decide +kernel
theorem dL_law_2276 : decode cL_law 2276 = .ok (.iadd, 1) := by decide +kernel
theorem dL_law_2277 : decode cL_law 2277 = .ok (.iaload, 1) := by decide +kernel
theorem dL_law_2278 : decode cL_law 2278 = .ok (.invokevirtual 295, 3) := by decide +kernel
theorem dL_law_2281 : decode cL_law 2281 = .ok (.istore 6, 2) := by decide +kernel
theorem dL_law_2283 : decode cL_law 2283 = .ok (.aload_n 2, 1) := by decide +kernel
theorem dL_law_2284 : decode cL_law 2284 = .ok (.invokevirtual 178, 3) := by decide +kernel
theorem dL_law_2287 : decode cL_law 2287 = .ok (.iload 5, 2) := by decide +kernel
theorem dL_law_2289 : decode cL_law 2289 = .ok (.if_icmp .eq 5, 3) := by decide +kernel
theorem dL_law_2294 : decode cL_law 2294 = .ok (.iload 5, 2) := by decide +kernel
theorem dL_law_2296 : decode cL_law 2296 = .ok (.ifCond .ne 15, 3) := by decide +kernel
theorem dL_law_2299 : decode cL_law 2299 = .ok (.aload_n 3, 1) := by decide +kernel
theorem dL_law_2300 : decode cL_law 2300 = .ok (.iconst 0, 1) := by decide +kernel
theorem dL_law_2301 : decode cL_law 2301 = .ok (.laload, 1) := by decide +kernel
theorem dL_law_2302 : decode cL_law 2302 = .ok (.iload 6, 2) := by decide +kernel
theorem dL_law_2304 : decode cL_law 2304 = .ok (.i2l, 1) := by decide +kernel
theorem dL_law_2305 : decode cL_law 2305 = .ok (.lcmp, 1) := by decide +kernel
theorem dL_law_2306 : decode cL_law 2306 = .ok (.ifCond .eq 5, 3) := by decide +kernel
theorem dL_law_2311 : decode cL_law 2311 = .ok (.goto 1112, 3) := by decide +kernel
theorem dL_law_2314 : decode cL_law 2314 = .ok (.aload_n 1, 1) := by decide +kernel
theorem dL_law_2315 : decode cL_law 2315 = .ok (.aload_n 0, 1) := by decide +kernel
theorem dL_law_2316 : decode cL_law 2316 = .ok (.iload 4, 2) := by decide +kernel
theorem dL_law_2318 : decode cL_law 2318 = .ok (.iconst 1, 1) := by decide +kernel
theorem dL_law_2319 : decode cL_law 2319 = .ok (.iadd, 1) := by decide +kernel
theorem dL_law_2320 : decode cL_law 2320 = .ok (.iaload, 1) := by decide +kernel
theorem dL_law_2321 : decode cL_law 2321 = .ok (.aload_n 3, 1) := by decide +kernel
theorem dL_law_2322 : decode cL_law 2322 = .ok (.invokestatic 296, 3) := by decide +kernel
theorem dL_law_2325 : decode cL_law 2325 = .ok (.istore 5, 2) := by decide +kernel
theorem dL_law_2327 : decode cL_law 2327 = .ok (.aload_n 2, 1) := by decide +kernel
theorem dL_law_2328 : decode cL_law 2328 = .ok (.aload_n 0, 1) := by decide +kernel
theorem dL_law_2329 : decode cL_law 2329 = .ok (.iload 4, 2) := by decide +kernel
theorem dL_law_2331 : decode cL_law 2331 = .ok (.iconst 1, 1) := by decide +kernel
theorem dL_law_2332 : decode cL_law 2332 = .ok (.iadd, 1) := by decide +kernel
theorem dL_law_2333 : decode cL_law 2333 = .ok (.iaload, 1) := by decide +kernel
theorem dL_law_2334 : decode cL_law 2334 = .ok (.invokevirtual 298, 3) := by decide +kernel
theorem dL_law_2337 : decode cL_law 2337 = .ok (.istore 6, 2) := by decide +kernel
theorem dL_law_2339 : decode cL_law 2339 = .ok (.aload_n 2, 1) := by decide +kernel
theorem dL_law_2340 : decode cL_law 2340 = .ok (.invokevirtual 178, 3) := by decide +kernel
theorem dL_law_2343 : decode cL_law 2343 = .ok (.iload 5, 2) := by decide +kernel
theorem dL_law_2345 : decode cL_law 2345 = .ok (.if_icmp .eq 5, 3) := by decide +kernel
theorem dL_law_2350 : decode cL_law 2350 = .ok (.iload 5, 2) := by decide +kernel
theorem dL_law_2352 : decode cL_law 2352 = .ok (.ifCond .ne 15, 3) := by decide +kernel
theorem dL_law_2355 : decode cL_law 2355 = .ok (.aload_n 3, 1) := by decide +kernel
theorem dL_law_2356 : decode cL_law 2356 = .ok (.iconst 0, 1) := by decide +kernel
theorem dL_law_2357 : decode cL_law 2357 = .ok (.laload, 1) := by decide +kernel
theorem dL_law_2358 : decode cL_law 2358 = .ok (.iload 6, 2) := by decide +kernel
theorem dL_law_2360 : decode cL_law 2360 = .ok (.i2l, 1) := by decide +kernel
theorem dL_law_2361 : decode cL_law 2361 = .ok (.lcmp, 1) := by decide +kernel
theorem dL_law_2362 : decode cL_law 2362 = .ok (.ifCond .eq 5, 3) := by decide +kernel
theorem dL_law_2367 : decode cL_law 2367 = .ok (.goto 1056, 3) := by decide +kernel
theorem dL_law_2370 : decode cL_law 2370 = .ok (.aload_n 1, 1) := by decide +kernel
theorem dL_law_2371 : decode cL_law 2371 = .ok (.aload_n 0, 1) := by decide +kernel
theorem dL_law_2372 : decode cL_law 2372 = .ok (.iload 4, 2) := by decide +kernel
theorem dL_law_2374 : decode cL_law 2374 = .ok (.iconst 1, 1) := by decide +kernel
theorem dL_law_2375 : decode cL_law 2375 = .ok (.iadd, 1) := by decide +kernel
theorem dL_law_2376 : decode cL_law 2376 = .ok (.iaload, 1) := by decide +kernel
theorem dL_law_2377 : decode cL_law 2377 = .ok (.aload_n 3, 1) := by decide +kernel
theorem dL_law_2378 : decode cL_law 2378 = .ok (.invokestatic 299, 3) := by decide +kernel
theorem dL_law_2381 : decode cL_law 2381 = .ok (.istore 5, 2) := by decide +kernel
theorem dL_law_2383 : decode cL_law 2383 = .ok (.aload_n 2, 1) := by decide +kernel
theorem dL_law_2384 : decode cL_law 2384 = .ok (.aload_n 0, 1) := by decide +kernel
theorem dL_law_2385 : decode cL_law 2385 = .ok (.iload 4, 2) := by decide +kernel
theorem dL_law_2387 : decode cL_law 2387 = .ok (.iconst 1, 1) := by decide +kernel
theorem dL_law_2388 : decode cL_law 2388 = .ok (.iadd, 1) := by decide +kernel
theorem dL_law_2389 : decode cL_law 2389 = .ok (.iaload, 1) := by decide +kernel
theorem dL_law_2390 : decode cL_law 2390 = .ok (.invokevirtual 301, 3) := by decide +kernel
theorem dL_law_2393 : decode cL_law 2393 = .ok (.istore 6, 2) := by decide +kernel
theorem dL_law_2395 : decode cL_law 2395 = .ok (.aload_n 2, 1) := by decide +kernel
theorem dL_law_2396 : decode cL_law 2396 = .ok (.invokevirtual 178, 3) := by decide +kernel
theorem dL_law_2399 : decode cL_law 2399 = .ok (.iload 5, 2) := by decide +kernel
theorem dL_law_2401 : decode cL_law 2401 = .ok (.if_icmp .eq 5, 3) := by decide +kernel
theorem dL_law_2406 : decode cL_law 2406 = .ok (.iload 5, 2) := by decide +kernel
theorem dL_law_2408 : decode cL_law 2408 = .ok (.ifCond .ne 15, 3) := by decide +kernel
theorem dL_law_2411 : decode cL_law 2411 = .ok (.aload_n 3, 1) := by decide +kernel
theorem dL_law_2412 : decode cL_law 2412 = .ok (.iconst 0, 1) := by decide +kernel
theorem dL_law_2413 : decode cL_law 2413 = .ok (.laload, 1) := by decide +kernel
theorem dL_law_2414 : decode cL_law 2414 = .ok (.iload 6, 2) := by decide +kernel
theorem dL_law_2416 : decode cL_law 2416 = .ok (.i2l, 1) := by decide +kernel
theorem dL_law_2417 : decode cL_law 2417 = .ok (.lcmp, 1) := by decide +kernel
theorem dL_law_2418 : decode cL_law 2418 = .ok (.ifCond .eq 5, 3) := by decide +kernel
theorem dL_law_2423 : decode cL_law 2423 = .ok (.goto 1000, 3) := by decide +kernel
theorem dL_law_2426 : decode cL_law 2426 = .ok (.aload_n 1, 1) := by decide +kernel
theorem dL_law_2427 : decode cL_law 2427 = .ok (.aload_n 0, 1) := by decide +kernel
theorem dL_law_2428 : decode cL_law 2428 = .ok (.iload 4, 2) := by decide +kernel
theorem dL_law_2430 : decode cL_law 2430 = .ok (.iconst 1, 1) := by decide +kernel
theorem dL_law_2431 : decode cL_law 2431 = .ok (.iadd, 1) := by decide +kernel
theorem dL_law_2432 : decode cL_law 2432 = .ok (.iaload, 1) := by decide +kernel
theorem dL_law_2433 : decode cL_law 2433 = .ok (.aload_n 0, 1) := by decide +kernel
theorem dL_law_2434 : decode cL_law 2434 = .ok (.iload 4, 2) := by decide +kernel
theorem dL_law_2436 : decode cL_law 2436 = .ok (.iconst 2, 1) := by decide +kernel
theorem dL_law_2437 : decode cL_law 2437 = .ok (.iadd, 1) := by decide +kernel
theorem dL_law_2438 : decode cL_law 2438 = .ok (.iaload, 1) := by decide +kernel
theorem dL_law_2439 : decode cL_law 2439 = .ok (.aload_n 3, 1) := by decide +kernel
theorem dL_law_2440 : decode cL_law 2440 = .ok (.invokestatic 302, 3) := by decide +kernel
theorem dL_law_2443 : decode cL_law 2443 = .ok (.istore 5, 2) := by decide +kernel
theorem dL_law_2445 : decode cL_law 2445 = .ok (.aload_n 2, 1) := by decide +kernel
theorem dL_law_2446 : decode cL_law 2446 = .ok (.aload_n 0, 1) := by decide +kernel
theorem dL_law_2447 : decode cL_law 2447 = .ok (.iload 4, 2) := by decide +kernel
theorem dL_law_2449 : decode cL_law 2449 = .ok (.iconst 1, 1) := by decide +kernel
theorem dL_law_2450 : decode cL_law 2450 = .ok (.iadd, 1) := by decide +kernel
theorem dL_law_2451 : decode cL_law 2451 = .ok (.iaload, 1) := by decide +kernel
theorem dL_law_2452 : decode cL_law 2452 = .ok (.aload_n 0, 1) := by decide +kernel
theorem dL_law_2453 : decode cL_law 2453 = .ok (.iload 4, 2) := by decide +kernel
theorem dL_law_2455 : decode cL_law 2455 = .ok (.iconst 2, 1) := by decide +kernel
theorem dL_law_2456 : decode cL_law 2456 = .ok (.iadd, 1) := by decide +kernel
theorem dL_law_2457 : decode cL_law 2457 = .ok (.iaload, 1) := by decide +kernel
theorem dL_law_2458 : decode cL_law 2458 = .ok (.invokevirtual 304, 3) := by decide +kernel
theorem dL_law_2461 : decode cL_law 2461 = .ok (.istore 6, 2) := by decide +kernel
theorem dL_law_2463 : decode cL_law 2463 = .ok (.aload_n 2, 1) := by decide +kernel
theorem dL_law_2464 : decode cL_law 2464 = .ok (.invokevirtual 178, 3) := by decide +kernel
theorem dL_law_2467 : decode cL_law 2467 = .ok (.iload 5, 2) := by decide +kernel
theorem dL_law_2469 : decode cL_law 2469 = .ok (.if_icmp .eq 5, 3) := by decide +kernel
theorem dL_law_2474 : decode cL_law 2474 = .ok (.iload 5, 2) := by decide +kernel
theorem dL_law_2476 : decode cL_law 2476 = .ok (.ifCond .ne 15, 3) := by decide +kernel
theorem dL_law_2479 : decode cL_law 2479 = .ok (.aload_n 3, 1) := by decide +kernel
theorem dL_law_2480 : decode cL_law 2480 = .ok (.iconst 0, 1) := by decide +kernel
theorem dL_law_2481 : decode cL_law 2481 = .ok (.laload, 1) := by decide +kernel
theorem dL_law_2482 : decode cL_law 2482 = .ok (.iload 6, 2) := by decide +kernel
theorem dL_law_2484 : decode cL_law 2484 = .ok (.i2l, 1) := by decide +kernel
theorem dL_law_2485 : decode cL_law 2485 = .ok (.lcmp, 1) := by decide +kernel
theorem dL_law_2486 : decode cL_law 2486 = .ok (.ifCond .eq 5, 3) := by decide +kernel
theorem dL_law_2491 : decode cL_law 2491 = .ok (.goto 932, 3) := by decide +kernel
theorem dL_law_2494 : decode cL_law 2494 = .ok (.aload_n 1, 1) := by decide +kernel
theorem dL_law_2495 : decode cL_law 2495 = .ok (.aload_n 0, 1) := by decide +kernel
theorem dL_law_2496 : decode cL_law 2496 = .ok (.iload 4, 2) := by decide +kernel
theorem dL_law_2498 : decode cL_law 2498 = .ok (.iconst 1, 1) := by decide +kernel
theorem dL_law_2499 : decode cL_law 2499 = .ok (.iadd, 1) := by decide +kernel
theorem dL_law_2500 : decode cL_law 2500 = .ok (.iaload, 1) := by decide +kernel
theorem dL_law_2501 : decode cL_law 2501 = .ok (.aload_n 3, 1) := by decide +kernel
theorem dL_law_2502 : decode cL_law 2502 = .ok (.invokestatic 305, 3) := by decide +kernel
theorem dL_law_2505 : decode cL_law 2505 = .ok (.istore 5, 2) := by decide +kernel
theorem dL_law_2507 : decode cL_law 2507 = .ok (.aload_n 2, 1) := by decide +kernel
theorem dL_law_2508 : decode cL_law 2508 = .ok (.aload_n 0, 1) := by decide +kernel
theorem dL_law_2509 : decode cL_law 2509 = .ok (.iload 4, 2) := by decide +kernel
theorem dL_law_2511 : decode cL_law 2511 = .ok (.iconst 1, 1) := by decide +kernel
theorem dL_law_2512 : decode cL_law 2512 = .ok (.iadd, 1) := by decide +kernel
theorem dL_law_2513 : decode cL_law 2513 = .ok (.iaload, 1) := by decide +kernel
theorem dL_law_2514 : decode cL_law 2514 = .ok (.invokevirtual 307, 3) := by decide +kernel
theorem dL_law_2517 : decode cL_law 2517 = .ok (.istore 6, 2) := by decide +kernel
theorem dL_law_2519 : decode cL_law 2519 = .ok (.aload_n 2, 1) := by decide +kernel
theorem dL_law_2520 : decode cL_law 2520 = .ok (.invokevirtual 178, 3) := by decide +kernel
theorem dL_law_2523 : decode cL_law 2523 = .ok (.iload 5, 2) := by decide +kernel
theorem dL_law_2525 : decode cL_law 2525 = .ok (.if_icmp .eq 5, 3) := by decide +kernel
theorem dL_law_2530 : decode cL_law 2530 = .ok (.iload 5, 2) := by decide +kernel
theorem dL_law_2532 : decode cL_law 2532 = .ok (.ifCond .ne 15, 3) := by decide +kernel
theorem dL_law_2535 : decode cL_law 2535 = .ok (.aload_n 3, 1) := by decide +kernel
theorem dL_law_2536 : decode cL_law 2536 = .ok (.iconst 0, 1) := by decide +kernel
theorem dL_law_2537 : decode cL_law 2537 = .ok (.laload, 1) := by decide +kernel
theorem dL_law_2538 : decode cL_law 2538 = .ok (.iload 6, 2) := by decide +kernel
theorem dL_law_2540 : decode cL_law 2540 = .ok (.i2l, 1) := by decide +kernel
theorem dL_law_2541 : decode cL_law 2541 = .ok (.lcmp, 1) := by decide +kernel
theorem dL_law_2542 : decode cL_law 2542 = .ok (.ifCond .eq 5, 3) := by decide +kernel
theorem dL_law_2547 : decode cL_law 2547 = .ok (.goto 876, 3) := by decide +kernel
theorem dL_law_2550 : decode cL_law 2550 = .ok (.aload_n 1, 1) := by decide +kernel
theorem dL_law_2551 : decode cL_law 2551 = .ok (.invokevirtual 308, 3) := by decide +kernel
theorem dL_law_2554 : decode cL_law 2554 = .ok (.aload_n 2, 1) := by decide +kernel
theorem dL_law_2555 : decode cL_law 2555 = .ok (.invokevirtual 311, 3) := by decide +kernel
theorem dL_law_2558 : decode cL_law 2558 = .ok (.if_icmp .eq 865, 3) := by decide +kernel
theorem dL_law_2563 : decode cL_law 2563 = .ok (.aload_n 1, 1) := by decide +kernel
theorem dL_law_2564 : decode cL_law 2564 = .ok (.aload_n 0, 1) := by decide +kernel
theorem dL_law_2565 : decode cL_law 2565 = .ok (.iload 4, 2) := by decide +kernel
theorem dL_law_2567 : decode cL_law 2567 = .ok (.iconst 1, 1) := by decide +kernel
theorem dL_law_2568 : decode cL_law 2568 = .ok (.iadd, 1) := by decide +kernel
theorem dL_law_2569 : decode cL_law 2569 = .ok (.iaload, 1) := by decide +kernel
theorem dL_law_2570 : decode cL_law 2570 = .ok (.aload_n 0, 1) := by decide +kernel
theorem dL_law_2571 : decode cL_law 2571 = .ok (.iload 4, 2) := by decide +kernel
theorem dL_law_2573 : decode cL_law 2573 = .ok (.iconst 2, 1) := by decide +kernel
theorem dL_law_2574 : decode cL_law 2574 = .ok (.iadd, 1) := by decide +kernel
theorem dL_law_2575 : decode cL_law 2575 = .ok (.iaload, 1) := by decide +kernel
theorem dL_law_2576 : decode cL_law 2576 = .ok (.aload_n 3, 1) := by decide +kernel
theorem dL_law_2577 : decode cL_law 2577 = .ok (.invokestatic 312, 3) := by decide +kernel
theorem dL_law_2580 : decode cL_law 2580 = .ok (.istore 5, 2) := by decide +kernel
theorem dL_law_2582 : decode cL_law 2582 = .ok (.aload_n 2, 1) := by decide +kernel
theorem dL_law_2583 : decode cL_law 2583 = .ok (.aload_n 0, 1) := by decide +kernel
theorem dL_law_2584 : decode cL_law 2584 = .ok (.iload 4, 2) := by decide +kernel
theorem dL_law_2586 : decode cL_law 2586 = .ok (.iconst 1, 1) := by decide +kernel
theorem dL_law_2587 : decode cL_law 2587 = .ok (.iadd, 1) := by decide +kernel
theorem dL_law_2588 : decode cL_law 2588 = .ok (.iaload, 1) := by decide +kernel
theorem dL_law_2589 : decode cL_law 2589 = .ok (.aload_n 0, 1) := by decide +kernel
theorem dL_law_2590 : decode cL_law 2590 = .ok (.iload 4, 2) := by decide +kernel
theorem dL_law_2592 : decode cL_law 2592 = .ok (.iconst 2, 1) := by decide +kernel
theorem dL_law_2593 : decode cL_law 2593 = .ok (.iadd, 1) := by decide +kernel
theorem dL_law_2594 : decode cL_law 2594 = .ok (.iaload, 1) := by decide +kernel
theorem dL_law_2595 : decode cL_law 2595 = .ok (.invokevirtual 314, 3) := by decide +kernel
theorem dL_law_2598 : decode cL_law 2598 = .ok (.istore 6, 2) := by decide +kernel
theorem dL_law_2600 : decode cL_law 2600 = .ok (.aload_n 2, 1) := by decide +kernel
theorem dL_law_2601 : decode cL_law 2601 = .ok (.invokevirtual 178, 3) := by decide +kernel
theorem dL_law_2604 : decode cL_law 2604 = .ok (.iload 5, 2) := by decide +kernel
theorem dL_law_2606 : decode cL_law 2606 = .ok (.if_icmp .eq 5, 3) := by decide +kernel
theorem dL_law_2611 : decode cL_law 2611 = .ok (.iload 5, 2) := by decide +kernel
theorem dL_law_2613 : decode cL_law 2613 = .ok (.ifCond .ne 22, 3) := by decide +kernel
theorem dL_law_2616 : decode cL_law 2616 = .ok (.aload_n 3, 1) := by decide +kernel
theorem dL_law_2617 : decode cL_law 2617 = .ok (.iconst 0, 1) := by decide +kernel
theorem dL_law_2618 : decode cL_law 2618 = .ok (.laload, 1) := by decide +kernel
theorem dL_law_2619 : decode cL_law 2619 = .ok (.iload 6, 2) := by decide +kernel
theorem dL_law_2621 : decode cL_law 2621 = .ok (.ifCond .eq 7, 3) := by decide +kernel
theorem dL_law_2624 : decode cL_law 2624 = .ok (.lconst 1, 1) := by decide +kernel
theorem dL_law_2625 : decode cL_law 2625 = .ok (.goto 4, 3) := by decide +kernel
theorem dL_law_2628 : decode cL_law 2628 = .ok (.lconst 0, 1) := by decide +kernel
theorem dL_law_2629 : decode cL_law 2629 = .ok (.lcmp, 1) := by decide +kernel
theorem dL_law_2630 : decode cL_law 2630 = .ok (.ifCond .eq 5, 3) := by decide +kernel
theorem dL_law_2635 : decode cL_law 2635 = .ok (.goto 788, 3) := by decide +kernel
theorem dL_law_2638 : decode cL_law 2638 = .ok (.aload_n 1, 1) := by decide +kernel
theorem dL_law_2639 : decode cL_law 2639 = .ok (.aload_n 0, 1) := by decide +kernel
theorem dL_law_2640 : decode cL_law 2640 = .ok (.iload 4, 2) := by decide +kernel
theorem dL_law_2642 : decode cL_law 2642 = .ok (.iconst 1, 1) := by decide +kernel
theorem dL_law_2643 : decode cL_law 2643 = .ok (.iadd, 1) := by decide +kernel
theorem dL_law_2644 : decode cL_law 2644 = .ok (.iaload, 1) := by decide +kernel
theorem dL_law_2645 : decode cL_law 2645 = .ok (.aload_n 3, 1) := by decide +kernel
theorem dL_law_2646 : decode cL_law 2646 = .ok (.invokestatic 315, 3) := by decide +kernel
theorem dL_law_2649 : decode cL_law 2649 = .ok (.istore 5, 2) := by decide +kernel
theorem dL_law_2651 : decode cL_law 2651 = .ok (.aload_n 2, 1) := by decide +kernel
theorem dL_law_2652 : decode cL_law 2652 = .ok (.aload_n 0, 1) := by decide +kernel
theorem dL_law_2653 : decode cL_law 2653 = .ok (.iload 4, 2) := by decide +kernel
theorem dL_law_2655 : decode cL_law 2655 = .ok (.iconst 1, 1) := by decide +kernel
theorem dL_law_2656 : decode cL_law 2656 = .ok (.iadd, 1) := by decide +kernel
theorem dL_law_2657 : decode cL_law 2657 = .ok (.iaload, 1) := by decide +kernel
theorem dL_law_2658 : decode cL_law 2658 = .ok (.invokevirtual 317, 3) := by decide +kernel
theorem dL_law_2661 : decode cL_law 2661 = .ok (.istore 6, 2) := by decide +kernel
theorem dL_law_2663 : decode cL_law 2663 = .ok (.aload_n 2, 1) := by decide +kernel
theorem dL_law_2664 : decode cL_law 2664 = .ok (.invokevirtual 178, 3) := by decide +kernel
theorem dL_law_2667 : decode cL_law 2667 = .ok (.iload 5, 2) := by decide +kernel
theorem dL_law_2669 : decode cL_law 2669 = .ok (.if_icmp .eq 5, 3) := by decide +kernel
theorem dL_law_2674 : decode cL_law 2674 = .ok (.iload 5, 2) := by decide +kernel
theorem dL_law_2676 : decode cL_law 2676 = .ok (.ifCond .ne 15, 3) := by decide +kernel
theorem dL_law_2679 : decode cL_law 2679 = .ok (.aload_n 3, 1) := by decide +kernel
theorem dL_law_2680 : decode cL_law 2680 = .ok (.iconst 0, 1) := by decide +kernel
theorem dL_law_2681 : decode cL_law 2681 = .ok (.laload, 1) := by decide +kernel
theorem dL_law_2682 : decode cL_law 2682 = .ok (.iload 6, 2) := by decide +kernel
theorem dL_law_2684 : decode cL_law 2684 = .ok (.i2l, 1) := by decide +kernel
theorem dL_law_2685 : decode cL_law 2685 = .ok (.lcmp, 1) := by decide +kernel
theorem dL_law_2686 : decode cL_law 2686 = .ok (.ifCond .eq 5, 3) := by decide +kernel
theorem dL_law_2691 : decode cL_law 2691 = .ok (.goto 732, 3) := by decide +kernel
theorem dL_law_2694 : decode cL_law 2694 = .ok (.aload_n 1, 1) := by decide +kernel
theorem dL_law_2695 : decode cL_law 2695 = .ok (.aload_n 0, 1) := by decide +kernel
theorem dL_law_2696 : decode cL_law 2696 = .ok (.iload 4, 2) := by decide +kernel
theorem dL_law_2698 : decode cL_law 2698 = .ok (.iconst 1, 1) := by decide +kernel
theorem dL_law_2699 : decode cL_law 2699 = .ok (.iadd, 1) := by decide +kernel
theorem dL_law_2700 : decode cL_law 2700 = .ok (.iaload, 1) := by decide +kernel
theorem dL_law_2701 : decode cL_law 2701 = .ok (.aload_n 0, 1) := by decide +kernel
theorem dL_law_2702 : decode cL_law 2702 = .ok (.iload 4, 2) := by decide +kernel
theorem dL_law_2704 : decode cL_law 2704 = .ok (.iconst 2, 1) := by decide +kernel
theorem dL_law_2705 : decode cL_law 2705 = .ok (.iadd, 1) := by decide +kernel
theorem dL_law_2706 : decode cL_law 2706 = .ok (.iaload, 1) := by decide +kernel
theorem dL_law_2707 : decode cL_law 2707 = .ok (.aload_n 3, 1) := by decide +kernel
theorem dL_law_2708 : decode cL_law 2708 = .ok (.invokestatic 318, 3) := by decide +kernel
theorem dL_law_2711 : decode cL_law 2711 = .ok (.istore 5, 2) := by decide +kernel
theorem dL_law_2713 : decode cL_law 2713 = .ok (.aload_n 2, 1) := by decide +kernel
theorem dL_law_2714 : decode cL_law 2714 = .ok (.aload_n 0, 1) := by decide +kernel
theorem dL_law_2715 : decode cL_law 2715 = .ok (.iload 4, 2) := by decide +kernel
theorem dL_law_2717 : decode cL_law 2717 = .ok (.iconst 1, 1) := by decide +kernel
theorem dL_law_2718 : decode cL_law 2718 = .ok (.iadd, 1) := by decide +kernel
theorem dL_law_2719 : decode cL_law 2719 = .ok (.iaload, 1) := by decide +kernel
theorem dL_law_2720 : decode cL_law 2720 = .ok (.aload_n 0, 1) := by decide +kernel
theorem dL_law_2721 : decode cL_law 2721 = .ok (.iload 4, 2) := by decide +kernel
theorem dL_law_2723 : decode cL_law 2723 = .ok (.iconst 2, 1) := by decide +kernel
theorem dL_law_2724 : decode cL_law 2724 = .ok (.iadd, 1) := by decide +kernel
theorem dL_law_2725 : decode cL_law 2725 = .ok (.iaload, 1) := by decide +kernel
theorem dL_law_2726 : decode cL_law 2726 = .ok (.invokevirtual 320, 3) := by decide +kernel
theorem dL_law_2729 : decode cL_law 2729 = .ok (.istore 6, 2) := by decide +kernel
theorem dL_law_2731 : decode cL_law 2731 = .ok (.aload_n 2, 1) := by decide +kernel
theorem dL_law_2732 : decode cL_law 2732 = .ok (.invokevirtual 178, 3) := by decide +kernel
theorem dL_law_2735 : decode cL_law 2735 = .ok (.iload 5, 2) := by decide +kernel
theorem dL_law_2737 : decode cL_law 2737 = .ok (.if_icmp .eq 5, 3) := by decide +kernel
theorem dL_law_2742 : decode cL_law 2742 = .ok (.iload 5, 2) := by decide +kernel
theorem dL_law_2744 : decode cL_law 2744 = .ok (.ifCond .ne 15, 3) := by decide +kernel
theorem dL_law_2747 : decode cL_law 2747 = .ok (.aload_n 3, 1) := by decide +kernel
theorem dL_law_2748 : decode cL_law 2748 = .ok (.iconst 0, 1) := by decide +kernel
theorem dL_law_2749 : decode cL_law 2749 = .ok (.laload, 1) := by decide +kernel
theorem dL_law_2750 : decode cL_law 2750 = .ok (.iload 6, 2) := by decide +kernel
theorem dL_law_2752 : decode cL_law 2752 = .ok (.i2l, 1) := by decide +kernel
theorem dL_law_2753 : decode cL_law 2753 = .ok (.lcmp, 1) := by decide +kernel
theorem dL_law_2754 : decode cL_law 2754 = .ok (.ifCond .eq 5, 3) := by decide +kernel
theorem dL_law_2759 : decode cL_law 2759 = .ok (.goto 664, 3) := by decide +kernel
set_option maxHeartbeats 4000000 in
set_option maxRecDepth 100000 in
theorem lc_31 {l : Launch} {g : GL} {p : Program} {e : Jvm.Env} {s : State} {m : MethodId} {below : List Frame} {meth : Method} {c : Code} {b Lx : Nat} {xs : Nat → Int32} {N : Nat} {Inv : SI → (Nat → Nat → Nat) → Prop} {σ : SI} {R : Nat → Nat → Nat} {L : Nat → Nat → Int64} {x4 : Int32} {cells slots : Nat} (C : Cx l g p s m meth c cL_law 7 RL) (hX : va_X b Lx xs s s.heap) (hbl : b < s.heap.size) (hbA : ¬ gA g b) (hI : Inv σ R) (hIS : InvOk Inv) (hAg : Ag_31 N Inv) (h1 : vp_in (x4 + 1) Lx) (h2 : vp_in (x4 + 2) Lx) (hcs : cells + 4 ≤ 601024 ∧ slots + 24 ≤ 7293034) (kk : ∀ (σ' : SI) (R' : Nat → Nat → Nat) (L' : Nat → Nat → Int64) (H : Heap) (locs : List Loc) (ls : Array Slot), Inv σ' R' → S2 g s σ' R' L' H locs → lv_has ls 7 [(0, .ref b), (1, .ref (gb g + 1)), (2, .ref (gb g + 178)), (3, .ref (gb g + 194)), (4, .int x4)] → W p l e room_1 s m #[Value.ref b] below meth c H locs (cells + 4) (slots + 24) (lw_Z below #[Value.ref b] s) (F0 m 3423 ls [])) : ∀ (H : Heap) (locs : List Loc) (ls : Array Slot), S2 g s σ R L H locs → lv_has ls 7 [(0, .ref b), (1, .ref (gb g + 1)), (2, .ref (gb g + 178)), (3, .ref (gb g + 194)), (4, .int x4)] → W p l e room_1 s m #[Value.ref b] below meth c H locs (cells) (slots) (lw_Z below #[Value.ref b] s) (F0 m 1905 ls []) := by
  intro H locs ls S hl
  obtain ⟨hc1, hc2⟩ := hcs
  have hx := C.1
  have hb := C.2.1
  have hSh := hIS σ R hI
  obtain ⟨res, σ1, b2, σ2, hm, hmod, hI2, hret, hthr⟩ := hAg σ R (xs (x4 + 1).toNatClampNeg) (xs (x4 + 2).toNatClampNeg) hI
  cases res with
  | inl v =>
    obtain ⟨ht, rfl⟩ := hret v rfl
    refine lv_aload_n hx hb dL_law_1905 rfl (lv_at hl 1 rfl) ?_
    refine lv_aload_n hx hb dL_law_1906 rfl (lv_at hl 0 rfl) ?_
    refine lv_iload hx hb dL_law_1907 (lv_at hl 4 rfl) ?_
    refine lv_iconst (v := (1 : Int32)) hx hb dL_law_1909 (by decide) ?_
    refine lv_iadd hx hb dL_law_1910 ?_
    refine va_sld hx hb hX hbl hbA S.2 h1 dL_law_1911 ?_
    refine lv_aload_n hx hb dL_law_1912 rfl (lv_at hl 0 rfl) ?_
    refine lv_iload hx hb dL_law_1913 (lv_at hl 4 rfl) ?_
    refine lv_iconst (v := (2 : Int32)) hx hb dL_law_1915 (by decide) ?_
    refine lv_iadd hx hb dL_law_1916 ?_
    refine va_sld hx hb hX hbl hbA S.2 h2 dL_law_1917 ?_
    refine lv_aload_n hx hb dL_law_1918 rfl (lv_at hl 3 rfl) ?_
    refine v_callW C S (h_earliest_ret (L := L) hm hSh ok_1 ok_194) ⟨cd_L_earliest, ni_RL, ml_RL_274, st_L_earliest⟩ ⟨by decide, by decide⟩ rfl ⟨by decide, by decide⟩ hl.1 rfl (Nat.le_of_ble_eq_true rfl) ⟨by show _ ≤ 601024; omega, by show _ ≤ 7293034; omega⟩ dL_law_1919 (fun w σ' H locs hp S => ?_)
    obtain ⟨rfl, rfl⟩ := hp
    have S : S2 g s σ1 R (fun a j => if a = 194 ∧ j = 0 then v.toInt64 else L a j) H locs := S
    obtain ⟨L1, hL1, hLv⟩ : ∃ L1 : Nat → Nat → Int64, (fun a j => if a = 194 ∧ j = 0 then v.toInt64 else L a j) = L1 ∧ L1 194 0 = v.toInt64 := ⟨_, rfl, if_pos ⟨rfl, rfl⟩⟩
    rw [hL1] at S
    refine lv_istore (lv' := [(5, .int 0), (0, .ref b), (1, .ref (gb g + 1)), (2, .ref (gb g + 178)), (3, .ref (gb g + 194)), (4, .int x4)]) hx hb dL_law_1922 hl (by decide) rfl (fun ls hl => ?_)
    refine lv_aload_n hx hb dL_law_1924 rfl (lv_at hl 3 rfl) ?_
    refine lv_aload_n hx hb dL_law_1925 rfl (lv_at hl 1 rfl) ?_
    refine lv_iload hx hb dL_law_1926 (lv_at hl 5 rfl) ?_
    refine lv_iconst (v := (1 : Int32)) hx hb dL_law_1928 (by decide) ?_
    refine lv_iadd hx hb dL_law_1929 ?_
    refine va_sld hx hb hX hbl hbA S.2 h1 dL_law_1930 ?_
    refine lv_aload_n hx hb dL_law_1931 rfl (lv_at hl 1 rfl) ?_
    refine lv_iload hx hb dL_law_1932 (lv_at hl 5 rfl) ?_
    refine lv_iconst (v := (2 : Int32)) hx hb dL_law_1934 (by decide) ?_
    refine lv_iadd hx hb dL_law_1935 ?_
    refine va_sld hx hb hX hbl hbA S.2 h2 dL_law_1936 ?_
    refine x_callVI C S KX12 ok_178 (ok_X12_earliest (L := L1) hmod hSh ok_178) ⟨cd_X12_earliest, ni_RX12, ml_RL_276, in_X12_earliest, sl_X12_earliest⟩ ⟨by decide, by decide⟩ rfl ⟨by decide, by decide⟩ hl.1 rfl (Nat.le_of_ble_eq_true rfl) ⟨by show _ ≤ 601024; omega, by show _ ≤ 7293034; omega⟩ dL_law_1937 (fun H locs S => ?_)
    refine lv_istore (lv' := [(6, .int v), (5, .int 0), (0, .ref b), (1, .ref (gb g + 1)), (2, .ref (gb g + 178)), (3, .ref (gb g + 194)), (4, .int x4)]) hx hb dL_law_1940 hl (by decide) rfl (fun ls hl => ?_)
    refine lv_aload_n hx hb dL_law_1942 rfl (lv_at hl 4 rfl) ?_
    refine x_callVI C S KX12 ok_178 (ok_X12_thrown (L := L1) (thr_eq N R σ2 178) hSh ok_178) ⟨cd_X12_thrown, ni_RX12, ml_RL_178, in_X12_thrown, sl_X12_thrown⟩ ⟨by decide, by decide⟩ rfl ⟨by decide, by decide⟩ hl.1 rfl (Nat.le_of_ble_eq_true rfl) ⟨by show _ ≤ 601024; omega, by show _ ≤ 7293034; omega⟩ dL_law_1943 (fun H locs S => ?_)
    refine lv_iload hx hb dL_law_1946 (lv_at hl 1 rfl) ?_
    refine lv_icmp_eq (tgt := 1953) hx hb dL_law_1948 (by decide) (fun c1 => ?_) (fun c1 => absurd ht c1)
    refine lv_iload hx hb dL_law_1953 (lv_at hl 1 rfl) ?_
    refine lv_if_ne (tgt := 1970) hx hb dL_law_1955 (by decide) (fun c2 => absurd rfl c2) (fun c2 => ?_)
    refine lv_aload_n hx hb dL_law_1958 rfl (lv_at hl 5 rfl) ?_
    refine lv_iconst (v := (0 : Int32)) hx hb dL_law_1959 (by decide) ?_
    refine x_lald C S ok_194 dL_law_1960 ?_
    refine lv_iload hx hb dL_law_1961 (lv_at hl 0 rfl) ?_
    refine lv_i2l hx hb dL_law_1963 rfl ?_
    refine W.lcmp hx hb dL_law_1964 ?_
    refine lv_if_eq (tgt := 1970) hx hb dL_law_1965 (by decide) (fun c4 => ?_) (fun c4 => absurd (by show lg_cmp (L1 194 0) _ = 0; rw [hLv]; exact lgc_self _) c4)
    refine lv_goto (tgt := 3423) hx hb dL_law_1970 (by decide) ?_
    exact W.widen (k := cells + 4) (n := slots + 24) (by omega) (by omega) (kk σ2 R L1 H locs ls hI2 S (lv_sub hl [2, 3, 4, 5, 6] rfl))
  | inr q =>
    rcases hthr q rfl with ⟨rfl, ht⟩ | ⟨rfl, ht⟩
    · refine lv_aload_n hx hb dL_law_1905 rfl (lv_at hl 1 rfl) ?_
      refine lv_aload_n hx hb dL_law_1906 rfl (lv_at hl 0 rfl) ?_
      refine lv_iload hx hb dL_law_1907 (lv_at hl 4 rfl) ?_
      refine lv_iconst (v := (1 : Int32)) hx hb dL_law_1909 (by decide) ?_
      refine lv_iadd hx hb dL_law_1910 ?_
      refine va_sld hx hb hX hbl hbA S.2 h1 dL_law_1911 ?_
      refine lv_aload_n hx hb dL_law_1912 rfl (lv_at hl 0 rfl) ?_
      refine lv_iload hx hb dL_law_1913 (lv_at hl 4 rfl) ?_
      refine lv_iconst (v := (2 : Int32)) hx hb dL_law_1915 (by decide) ?_
      refine lv_iadd hx hb dL_law_1916 ?_
      refine va_sld hx hb hX hbl hbA S.2 h2 dL_law_1917 ?_
      refine lv_aload_n hx hb dL_law_1918 rfl (lv_at hl 3 rfl) ?_
      refine v_callW C S (h_earliest_x0 (L := L) hm hSh ok_1 ok_194) ⟨cd_L_earliest, ni_RL, ml_RL_274, st_L_earliest⟩ ⟨by decide, by decide⟩ rfl ⟨by decide, by decide⟩ hl.1 rfl (Nat.le_of_ble_eq_true rfl) ⟨by show _ ≤ 601024; omega, by show _ ≤ 7293034; omega⟩ dL_law_1919 (fun w σ' H locs hp S => ?_)
      obtain ⟨rfl, rfl⟩ := hp
      have S : S2 g s σ1 R L H locs := S
      refine lv_istore (lv' := [(5, .int 1), (0, .ref b), (1, .ref (gb g + 1)), (2, .ref (gb g + 178)), (3, .ref (gb g + 194)), (4, .int x4)]) hx hb dL_law_1922 hl (by decide) rfl (fun ls hl => ?_)
      refine lv_aload_n hx hb dL_law_1924 rfl (lv_at hl 3 rfl) ?_
      refine lv_aload_n hx hb dL_law_1925 rfl (lv_at hl 1 rfl) ?_
      refine lv_iload hx hb dL_law_1926 (lv_at hl 5 rfl) ?_
      refine lv_iconst (v := (1 : Int32)) hx hb dL_law_1928 (by decide) ?_
      refine lv_iadd hx hb dL_law_1929 ?_
      refine va_sld hx hb hX hbl hbA S.2 h1 dL_law_1930 ?_
      refine lv_aload_n hx hb dL_law_1931 rfl (lv_at hl 1 rfl) ?_
      refine lv_iload hx hb dL_law_1932 (lv_at hl 5 rfl) ?_
      refine lv_iconst (v := (2 : Int32)) hx hb dL_law_1934 (by decide) ?_
      refine lv_iadd hx hb dL_law_1935 ?_
      refine va_sld hx hb hX hbl hbA S.2 h2 dL_law_1936 ?_
      refine x_callVI C S KX12 ok_178 (ok_X12_earliest (L := L) hmod hSh ok_178) ⟨cd_X12_earliest, ni_RX12, ml_RL_276, in_X12_earliest, sl_X12_earliest⟩ ⟨by decide, by decide⟩ rfl ⟨by decide, by decide⟩ hl.1 rfl (Nat.le_of_ble_eq_true rfl) ⟨by show _ ≤ 601024; omega, by show _ ≤ 7293034; omega⟩ dL_law_1937 (fun H locs S => ?_)
      refine lv_istore (lv' := [(6, .int b2), (5, .int 1), (0, .ref b), (1, .ref (gb g + 1)), (2, .ref (gb g + 178)), (3, .ref (gb g + 194)), (4, .int x4)]) hx hb dL_law_1940 hl (by decide) rfl (fun ls hl => ?_)
      refine lv_aload_n hx hb dL_law_1942 rfl (lv_at hl 4 rfl) ?_
      refine x_callVI C S KX12 ok_178 (ok_X12_thrown (L := L) (thr_eq N R σ2 178) hSh ok_178) ⟨cd_X12_thrown, ni_RX12, ml_RL_178, in_X12_thrown, sl_X12_thrown⟩ ⟨by decide, by decide⟩ rfl ⟨by decide, by decide⟩ hl.1 rfl (Nat.le_of_ble_eq_true rfl) ⟨by show _ ≤ 601024; omega, by show _ ≤ 7293034; omega⟩ dL_law_1943 (fun H locs S => ?_)
      refine lv_iload hx hb dL_law_1946 (lv_at hl 1 rfl) ?_
      refine lv_icmp_eq (tgt := 1953) hx hb dL_law_1948 (by decide) (fun c1 => ?_) (fun c1 => absurd ht c1)
      refine lv_iload hx hb dL_law_1953 (lv_at hl 1 rfl) ?_
      refine lv_if_ne (tgt := 1970) hx hb dL_law_1955 (by decide) (fun c2 => ?_) (fun c2 => absurd c2 (by decide))
      refine lv_goto (tgt := 3423) hx hb dL_law_1970 (by decide) ?_
      exact W.widen (k := cells + 4) (n := slots + 24) (by omega) (by omega) (kk σ2 R L H locs ls hI2 S (lv_sub hl [2, 3, 4, 5, 6] rfl))
    · refine lv_aload_n hx hb dL_law_1905 rfl (lv_at hl 1 rfl) ?_
      refine lv_aload_n hx hb dL_law_1906 rfl (lv_at hl 0 rfl) ?_
      refine lv_iload hx hb dL_law_1907 (lv_at hl 4 rfl) ?_
      refine lv_iconst (v := (1 : Int32)) hx hb dL_law_1909 (by decide) ?_
      refine lv_iadd hx hb dL_law_1910 ?_
      refine va_sld hx hb hX hbl hbA S.2 h1 dL_law_1911 ?_
      refine lv_aload_n hx hb dL_law_1912 rfl (lv_at hl 0 rfl) ?_
      refine lv_iload hx hb dL_law_1913 (lv_at hl 4 rfl) ?_
      refine lv_iconst (v := (2 : Int32)) hx hb dL_law_1915 (by decide) ?_
      refine lv_iadd hx hb dL_law_1916 ?_
      refine va_sld hx hb hX hbl hbA S.2 h2 dL_law_1917 ?_
      refine lv_aload_n hx hb dL_law_1918 rfl (lv_at hl 3 rfl) ?_
      refine v_callW C S (h_earliest_x1 (L := L) hm hSh ok_1 ok_194) ⟨cd_L_earliest, ni_RL, ml_RL_274, st_L_earliest⟩ ⟨by decide, by decide⟩ rfl ⟨by decide, by decide⟩ hl.1 rfl (Nat.le_of_ble_eq_true rfl) ⟨by show _ ≤ 601024; omega, by show _ ≤ 7293034; omega⟩ dL_law_1919 (fun w σ' H locs hp S => ?_)
      obtain ⟨rfl, rfl⟩ := hp
      have S : S2 g s σ1 R L H locs := S
      refine lv_istore (lv' := [(5, .int 2), (0, .ref b), (1, .ref (gb g + 1)), (2, .ref (gb g + 178)), (3, .ref (gb g + 194)), (4, .int x4)]) hx hb dL_law_1922 hl (by decide) rfl (fun ls hl => ?_)
      refine lv_aload_n hx hb dL_law_1924 rfl (lv_at hl 3 rfl) ?_
      refine lv_aload_n hx hb dL_law_1925 rfl (lv_at hl 1 rfl) ?_
      refine lv_iload hx hb dL_law_1926 (lv_at hl 5 rfl) ?_
      refine lv_iconst (v := (1 : Int32)) hx hb dL_law_1928 (by decide) ?_
      refine lv_iadd hx hb dL_law_1929 ?_
      refine va_sld hx hb hX hbl hbA S.2 h1 dL_law_1930 ?_
      refine lv_aload_n hx hb dL_law_1931 rfl (lv_at hl 1 rfl) ?_
      refine lv_iload hx hb dL_law_1932 (lv_at hl 5 rfl) ?_
      refine lv_iconst (v := (2 : Int32)) hx hb dL_law_1934 (by decide) ?_
      refine lv_iadd hx hb dL_law_1935 ?_
      refine va_sld hx hb hX hbl hbA S.2 h2 dL_law_1936 ?_
      refine x_callVI C S KX12 ok_178 (ok_X12_earliest (L := L) hmod hSh ok_178) ⟨cd_X12_earliest, ni_RX12, ml_RL_276, in_X12_earliest, sl_X12_earliest⟩ ⟨by decide, by decide⟩ rfl ⟨by decide, by decide⟩ hl.1 rfl (Nat.le_of_ble_eq_true rfl) ⟨by show _ ≤ 601024; omega, by show _ ≤ 7293034; omega⟩ dL_law_1937 (fun H locs S => ?_)
      refine lv_istore (lv' := [(6, .int b2), (5, .int 2), (0, .ref b), (1, .ref (gb g + 1)), (2, .ref (gb g + 178)), (3, .ref (gb g + 194)), (4, .int x4)]) hx hb dL_law_1940 hl (by decide) rfl (fun ls hl => ?_)
      refine lv_aload_n hx hb dL_law_1942 rfl (lv_at hl 4 rfl) ?_
      refine x_callVI C S KX12 ok_178 (ok_X12_thrown (L := L) (thr_eq N R σ2 178) hSh ok_178) ⟨cd_X12_thrown, ni_RX12, ml_RL_178, in_X12_thrown, sl_X12_thrown⟩ ⟨by decide, by decide⟩ rfl ⟨by decide, by decide⟩ hl.1 rfl (Nat.le_of_ble_eq_true rfl) ⟨by show _ ≤ 601024; omega, by show _ ≤ 7293034; omega⟩ dL_law_1943 (fun H locs S => ?_)
      refine lv_iload hx hb dL_law_1946 (lv_at hl 1 rfl) ?_
      refine lv_icmp_eq (tgt := 1953) hx hb dL_law_1948 (by decide) (fun c1 => ?_) (fun c1 => absurd ht c1)
      refine lv_iload hx hb dL_law_1953 (lv_at hl 1 rfl) ?_
      refine lv_if_ne (tgt := 1970) hx hb dL_law_1955 (by decide) (fun c2 => ?_) (fun c2 => absurd c2 (by decide))
      refine lv_goto (tgt := 3423) hx hb dL_law_1970 (by decide) ?_
      exact W.widen (k := cells + 4) (n := slots + 24) (by omega) (by omega) (kk σ2 R L H locs ls hI2 S (lv_sub hl [2, 3, 4, 5, 6] rfl))
set_option maxHeartbeats 4000000 in
set_option maxRecDepth 100000 in
theorem lc_32 {l : Launch} {g : GL} {p : Program} {e : Jvm.Env} {s : State} {m : MethodId} {below : List Frame} {meth : Method} {c : Code} {b Lx : Nat} {xs : Nat → Int32} {N : Nat} {Inv : SI → (Nat → Nat → Nat) → Prop} {σ : SI} {R : Nat → Nat → Nat} {L : Nat → Nat → Int64} {x4 : Int32} {cells slots : Nat} (C : Cx l g p s m meth c cL_law 7 RL) (hX : va_X b Lx xs s s.heap) (hbl : b < s.heap.size) (hbA : ¬ gA g b) (hI : Inv σ R) (hIS : InvOk Inv) (hAg : Ag_32 N Inv) (h1 : vp_in (x4 + 1) Lx) (h2 : vp_in (x4 + 2) Lx) (hcs : cells + 4 ≤ 601024 ∧ slots + 24 ≤ 7293034) (kk : ∀ (σ' : SI) (R' : Nat → Nat → Nat) (L' : Nat → Nat → Int64) (H : Heap) (locs : List Loc) (ls : Array Slot), Inv σ' R' → S2 g s σ' R' L' H locs → lv_has ls 7 [(0, .ref b), (1, .ref (gb g + 1)), (2, .ref (gb g + 178)), (3, .ref (gb g + 194)), (4, .int x4)] → W p l e room_1 s m #[Value.ref b] below meth c H locs (cells + 4) (slots + 24) (lw_Z below #[Value.ref b] s) (F0 m 3423 ls [])) : ∀ (H : Heap) (locs : List Loc) (ls : Array Slot), S2 g s σ R L H locs → lv_has ls 7 [(0, .ref b), (1, .ref (gb g + 1)), (2, .ref (gb g + 178)), (3, .ref (gb g + 194)), (4, .int x4)] → W p l e room_1 s m #[Value.ref b] below meth c H locs (cells) (slots) (lw_Z below #[Value.ref b] s) (F0 m 1973 ls []) := by
  intro H locs ls S hl
  obtain ⟨hc1, hc2⟩ := hcs
  have hx := C.1
  have hb := C.2.1
  have hSh := hIS σ R hI
  obtain ⟨res, σ1, b2, σ2, hm, hmod, hI2, hret, hthr⟩ := hAg σ R (xs (x4 + 1).toNatClampNeg) (xs (x4 + 2).toNatClampNeg) hI
  cases res with
  | inl v =>
    obtain ⟨ht, rfl⟩ := hret v rfl
    refine lv_aload_n hx hb dL_law_1973 rfl (lv_at hl 1 rfl) ?_
    refine lv_aload_n hx hb dL_law_1974 rfl (lv_at hl 0 rfl) ?_
    refine lv_iload hx hb dL_law_1975 (lv_at hl 4 rfl) ?_
    refine lv_iconst (v := (1 : Int32)) hx hb dL_law_1977 (by decide) ?_
    refine lv_iadd hx hb dL_law_1978 ?_
    refine va_sld hx hb hX hbl hbA S.2 h1 dL_law_1979 ?_
    refine lv_aload_n hx hb dL_law_1980 rfl (lv_at hl 0 rfl) ?_
    refine lv_iload hx hb dL_law_1981 (lv_at hl 4 rfl) ?_
    refine lv_iconst (v := (2 : Int32)) hx hb dL_law_1983 (by decide) ?_
    refine lv_iadd hx hb dL_law_1984 ?_
    refine va_sld hx hb hX hbl hbA S.2 h2 dL_law_1985 ?_
    refine lv_aload_n hx hb dL_law_1986 rfl (lv_at hl 3 rfl) ?_
    refine v_callW C S (h_latest_ret (L := L) hm hSh ok_1 ok_194) ⟨cd_L_latest, ni_RL, ml_RL_277, st_L_latest⟩ ⟨by decide, by decide⟩ rfl ⟨by decide, by decide⟩ hl.1 rfl (Nat.le_of_ble_eq_true rfl) ⟨by show _ ≤ 601024; omega, by show _ ≤ 7293034; omega⟩ dL_law_1987 (fun w σ' H locs hp S => ?_)
    obtain ⟨rfl, rfl⟩ := hp
    have S : S2 g s σ1 R (fun a j => if a = 194 ∧ j = 0 then v.toInt64 else L a j) H locs := S
    obtain ⟨L1, hL1, hLv⟩ : ∃ L1 : Nat → Nat → Int64, (fun a j => if a = 194 ∧ j = 0 then v.toInt64 else L a j) = L1 ∧ L1 194 0 = v.toInt64 := ⟨_, rfl, if_pos ⟨rfl, rfl⟩⟩
    rw [hL1] at S
    refine lv_istore (lv' := [(5, .int 0), (0, .ref b), (1, .ref (gb g + 1)), (2, .ref (gb g + 178)), (3, .ref (gb g + 194)), (4, .int x4)]) hx hb dL_law_1990 hl (by decide) rfl (fun ls hl => ?_)
    refine lv_aload_n hx hb dL_law_1992 rfl (lv_at hl 3 rfl) ?_
    refine lv_aload_n hx hb dL_law_1993 rfl (lv_at hl 1 rfl) ?_
    refine lv_iload hx hb dL_law_1994 (lv_at hl 5 rfl) ?_
    refine lv_iconst (v := (1 : Int32)) hx hb dL_law_1996 (by decide) ?_
    refine lv_iadd hx hb dL_law_1997 ?_
    refine va_sld hx hb hX hbl hbA S.2 h1 dL_law_1998 ?_
    refine lv_aload_n hx hb dL_law_1999 rfl (lv_at hl 1 rfl) ?_
    refine lv_iload hx hb dL_law_2000 (lv_at hl 5 rfl) ?_
    refine lv_iconst (v := (2 : Int32)) hx hb dL_law_2002 (by decide) ?_
    refine lv_iadd hx hb dL_law_2003 ?_
    refine va_sld hx hb hX hbl hbA S.2 h2 dL_law_2004 ?_
    refine x_callVI C S KX12 ok_178 (ok_X12_latest (L := L1) hmod hSh ok_178) ⟨cd_X12_latest, ni_RX12, ml_RL_279, in_X12_latest, sl_X12_latest⟩ ⟨by decide, by decide⟩ rfl ⟨by decide, by decide⟩ hl.1 rfl (Nat.le_of_ble_eq_true rfl) ⟨by show _ ≤ 601024; omega, by show _ ≤ 7293034; omega⟩ dL_law_2005 (fun H locs S => ?_)
    refine lv_istore (lv' := [(6, .int v), (5, .int 0), (0, .ref b), (1, .ref (gb g + 1)), (2, .ref (gb g + 178)), (3, .ref (gb g + 194)), (4, .int x4)]) hx hb dL_law_2008 hl (by decide) rfl (fun ls hl => ?_)
    refine lv_aload_n hx hb dL_law_2010 rfl (lv_at hl 4 rfl) ?_
    refine x_callVI C S KX12 ok_178 (ok_X12_thrown (L := L1) (thr_eq N R σ2 178) hSh ok_178) ⟨cd_X12_thrown, ni_RX12, ml_RL_178, in_X12_thrown, sl_X12_thrown⟩ ⟨by decide, by decide⟩ rfl ⟨by decide, by decide⟩ hl.1 rfl (Nat.le_of_ble_eq_true rfl) ⟨by show _ ≤ 601024; omega, by show _ ≤ 7293034; omega⟩ dL_law_2011 (fun H locs S => ?_)
    refine lv_iload hx hb dL_law_2014 (lv_at hl 1 rfl) ?_
    refine lv_icmp_eq (tgt := 2021) hx hb dL_law_2016 (by decide) (fun c1 => ?_) (fun c1 => absurd ht c1)
    refine lv_iload hx hb dL_law_2021 (lv_at hl 1 rfl) ?_
    refine lv_if_ne (tgt := 2038) hx hb dL_law_2023 (by decide) (fun c2 => absurd rfl c2) (fun c2 => ?_)
    refine lv_aload_n hx hb dL_law_2026 rfl (lv_at hl 5 rfl) ?_
    refine lv_iconst (v := (0 : Int32)) hx hb dL_law_2027 (by decide) ?_
    refine x_lald C S ok_194 dL_law_2028 ?_
    refine lv_iload hx hb dL_law_2029 (lv_at hl 0 rfl) ?_
    refine lv_i2l hx hb dL_law_2031 rfl ?_
    refine W.lcmp hx hb dL_law_2032 ?_
    refine lv_if_eq (tgt := 2038) hx hb dL_law_2033 (by decide) (fun c4 => ?_) (fun c4 => absurd (by show lg_cmp (L1 194 0) _ = 0; rw [hLv]; exact lgc_self _) c4)
    refine lv_goto (tgt := 3423) hx hb dL_law_2038 (by decide) ?_
    exact W.widen (k := cells + 4) (n := slots + 24) (by omega) (by omega) (kk σ2 R L1 H locs ls hI2 S (lv_sub hl [2, 3, 4, 5, 6] rfl))
  | inr q =>
    rcases hthr q rfl with ⟨rfl, ht⟩ | ⟨rfl, ht⟩
    · refine lv_aload_n hx hb dL_law_1973 rfl (lv_at hl 1 rfl) ?_
      refine lv_aload_n hx hb dL_law_1974 rfl (lv_at hl 0 rfl) ?_
      refine lv_iload hx hb dL_law_1975 (lv_at hl 4 rfl) ?_
      refine lv_iconst (v := (1 : Int32)) hx hb dL_law_1977 (by decide) ?_
      refine lv_iadd hx hb dL_law_1978 ?_
      refine va_sld hx hb hX hbl hbA S.2 h1 dL_law_1979 ?_
      refine lv_aload_n hx hb dL_law_1980 rfl (lv_at hl 0 rfl) ?_
      refine lv_iload hx hb dL_law_1981 (lv_at hl 4 rfl) ?_
      refine lv_iconst (v := (2 : Int32)) hx hb dL_law_1983 (by decide) ?_
      refine lv_iadd hx hb dL_law_1984 ?_
      refine va_sld hx hb hX hbl hbA S.2 h2 dL_law_1985 ?_
      refine lv_aload_n hx hb dL_law_1986 rfl (lv_at hl 3 rfl) ?_
      refine v_callW C S (h_latest_x0 (L := L) hm hSh ok_1 ok_194) ⟨cd_L_latest, ni_RL, ml_RL_277, st_L_latest⟩ ⟨by decide, by decide⟩ rfl ⟨by decide, by decide⟩ hl.1 rfl (Nat.le_of_ble_eq_true rfl) ⟨by show _ ≤ 601024; omega, by show _ ≤ 7293034; omega⟩ dL_law_1987 (fun w σ' H locs hp S => ?_)
      obtain ⟨rfl, rfl⟩ := hp
      have S : S2 g s σ1 R L H locs := S
      refine lv_istore (lv' := [(5, .int 1), (0, .ref b), (1, .ref (gb g + 1)), (2, .ref (gb g + 178)), (3, .ref (gb g + 194)), (4, .int x4)]) hx hb dL_law_1990 hl (by decide) rfl (fun ls hl => ?_)
      refine lv_aload_n hx hb dL_law_1992 rfl (lv_at hl 3 rfl) ?_
      refine lv_aload_n hx hb dL_law_1993 rfl (lv_at hl 1 rfl) ?_
      refine lv_iload hx hb dL_law_1994 (lv_at hl 5 rfl) ?_
      refine lv_iconst (v := (1 : Int32)) hx hb dL_law_1996 (by decide) ?_
      refine lv_iadd hx hb dL_law_1997 ?_
      refine va_sld hx hb hX hbl hbA S.2 h1 dL_law_1998 ?_
      refine lv_aload_n hx hb dL_law_1999 rfl (lv_at hl 1 rfl) ?_
      refine lv_iload hx hb dL_law_2000 (lv_at hl 5 rfl) ?_
      refine lv_iconst (v := (2 : Int32)) hx hb dL_law_2002 (by decide) ?_
      refine lv_iadd hx hb dL_law_2003 ?_
      refine va_sld hx hb hX hbl hbA S.2 h2 dL_law_2004 ?_
      refine x_callVI C S KX12 ok_178 (ok_X12_latest (L := L) hmod hSh ok_178) ⟨cd_X12_latest, ni_RX12, ml_RL_279, in_X12_latest, sl_X12_latest⟩ ⟨by decide, by decide⟩ rfl ⟨by decide, by decide⟩ hl.1 rfl (Nat.le_of_ble_eq_true rfl) ⟨by show _ ≤ 601024; omega, by show _ ≤ 7293034; omega⟩ dL_law_2005 (fun H locs S => ?_)
      refine lv_istore (lv' := [(6, .int b2), (5, .int 1), (0, .ref b), (1, .ref (gb g + 1)), (2, .ref (gb g + 178)), (3, .ref (gb g + 194)), (4, .int x4)]) hx hb dL_law_2008 hl (by decide) rfl (fun ls hl => ?_)
      refine lv_aload_n hx hb dL_law_2010 rfl (lv_at hl 4 rfl) ?_
      refine x_callVI C S KX12 ok_178 (ok_X12_thrown (L := L) (thr_eq N R σ2 178) hSh ok_178) ⟨cd_X12_thrown, ni_RX12, ml_RL_178, in_X12_thrown, sl_X12_thrown⟩ ⟨by decide, by decide⟩ rfl ⟨by decide, by decide⟩ hl.1 rfl (Nat.le_of_ble_eq_true rfl) ⟨by show _ ≤ 601024; omega, by show _ ≤ 7293034; omega⟩ dL_law_2011 (fun H locs S => ?_)
      refine lv_iload hx hb dL_law_2014 (lv_at hl 1 rfl) ?_
      refine lv_icmp_eq (tgt := 2021) hx hb dL_law_2016 (by decide) (fun c1 => ?_) (fun c1 => absurd ht c1)
      refine lv_iload hx hb dL_law_2021 (lv_at hl 1 rfl) ?_
      refine lv_if_ne (tgt := 2038) hx hb dL_law_2023 (by decide) (fun c2 => ?_) (fun c2 => absurd c2 (by decide))
      refine lv_goto (tgt := 3423) hx hb dL_law_2038 (by decide) ?_
      exact W.widen (k := cells + 4) (n := slots + 24) (by omega) (by omega) (kk σ2 R L H locs ls hI2 S (lv_sub hl [2, 3, 4, 5, 6] rfl))
    · refine lv_aload_n hx hb dL_law_1973 rfl (lv_at hl 1 rfl) ?_
      refine lv_aload_n hx hb dL_law_1974 rfl (lv_at hl 0 rfl) ?_
      refine lv_iload hx hb dL_law_1975 (lv_at hl 4 rfl) ?_
      refine lv_iconst (v := (1 : Int32)) hx hb dL_law_1977 (by decide) ?_
      refine lv_iadd hx hb dL_law_1978 ?_
      refine va_sld hx hb hX hbl hbA S.2 h1 dL_law_1979 ?_
      refine lv_aload_n hx hb dL_law_1980 rfl (lv_at hl 0 rfl) ?_
      refine lv_iload hx hb dL_law_1981 (lv_at hl 4 rfl) ?_
      refine lv_iconst (v := (2 : Int32)) hx hb dL_law_1983 (by decide) ?_
      refine lv_iadd hx hb dL_law_1984 ?_
      refine va_sld hx hb hX hbl hbA S.2 h2 dL_law_1985 ?_
      refine lv_aload_n hx hb dL_law_1986 rfl (lv_at hl 3 rfl) ?_
      refine v_callW C S (h_latest_x1 (L := L) hm hSh ok_1 ok_194) ⟨cd_L_latest, ni_RL, ml_RL_277, st_L_latest⟩ ⟨by decide, by decide⟩ rfl ⟨by decide, by decide⟩ hl.1 rfl (Nat.le_of_ble_eq_true rfl) ⟨by show _ ≤ 601024; omega, by show _ ≤ 7293034; omega⟩ dL_law_1987 (fun w σ' H locs hp S => ?_)
      obtain ⟨rfl, rfl⟩ := hp
      have S : S2 g s σ1 R L H locs := S
      refine lv_istore (lv' := [(5, .int 2), (0, .ref b), (1, .ref (gb g + 1)), (2, .ref (gb g + 178)), (3, .ref (gb g + 194)), (4, .int x4)]) hx hb dL_law_1990 hl (by decide) rfl (fun ls hl => ?_)
      refine lv_aload_n hx hb dL_law_1992 rfl (lv_at hl 3 rfl) ?_
      refine lv_aload_n hx hb dL_law_1993 rfl (lv_at hl 1 rfl) ?_
      refine lv_iload hx hb dL_law_1994 (lv_at hl 5 rfl) ?_
      refine lv_iconst (v := (1 : Int32)) hx hb dL_law_1996 (by decide) ?_
      refine lv_iadd hx hb dL_law_1997 ?_
      refine va_sld hx hb hX hbl hbA S.2 h1 dL_law_1998 ?_
      refine lv_aload_n hx hb dL_law_1999 rfl (lv_at hl 1 rfl) ?_
      refine lv_iload hx hb dL_law_2000 (lv_at hl 5 rfl) ?_
      refine lv_iconst (v := (2 : Int32)) hx hb dL_law_2002 (by decide) ?_
      refine lv_iadd hx hb dL_law_2003 ?_
      refine va_sld hx hb hX hbl hbA S.2 h2 dL_law_2004 ?_
      refine x_callVI C S KX12 ok_178 (ok_X12_latest (L := L) hmod hSh ok_178) ⟨cd_X12_latest, ni_RX12, ml_RL_279, in_X12_latest, sl_X12_latest⟩ ⟨by decide, by decide⟩ rfl ⟨by decide, by decide⟩ hl.1 rfl (Nat.le_of_ble_eq_true rfl) ⟨by show _ ≤ 601024; omega, by show _ ≤ 7293034; omega⟩ dL_law_2005 (fun H locs S => ?_)
      refine lv_istore (lv' := [(6, .int b2), (5, .int 2), (0, .ref b), (1, .ref (gb g + 1)), (2, .ref (gb g + 178)), (3, .ref (gb g + 194)), (4, .int x4)]) hx hb dL_law_2008 hl (by decide) rfl (fun ls hl => ?_)
      refine lv_aload_n hx hb dL_law_2010 rfl (lv_at hl 4 rfl) ?_
      refine x_callVI C S KX12 ok_178 (ok_X12_thrown (L := L) (thr_eq N R σ2 178) hSh ok_178) ⟨cd_X12_thrown, ni_RX12, ml_RL_178, in_X12_thrown, sl_X12_thrown⟩ ⟨by decide, by decide⟩ rfl ⟨by decide, by decide⟩ hl.1 rfl (Nat.le_of_ble_eq_true rfl) ⟨by show _ ≤ 601024; omega, by show _ ≤ 7293034; omega⟩ dL_law_2011 (fun H locs S => ?_)
      refine lv_iload hx hb dL_law_2014 (lv_at hl 1 rfl) ?_
      refine lv_icmp_eq (tgt := 2021) hx hb dL_law_2016 (by decide) (fun c1 => ?_) (fun c1 => absurd ht c1)
      refine lv_iload hx hb dL_law_2021 (lv_at hl 1 rfl) ?_
      refine lv_if_ne (tgt := 2038) hx hb dL_law_2023 (by decide) (fun c2 => ?_) (fun c2 => absurd c2 (by decide))
      refine lv_goto (tgt := 3423) hx hb dL_law_2038 (by decide) ?_
      exact W.widen (k := cells + 4) (n := slots + 24) (by omega) (by omega) (kk σ2 R L H locs ls hI2 S (lv_sub hl [2, 3, 4, 5, 6] rfl))
set_option maxHeartbeats 4000000 in
set_option maxRecDepth 100000 in
theorem lc_33 {l : Launch} {g : GL} {p : Program} {e : Jvm.Env} {s : State} {m : MethodId} {below : List Frame} {meth : Method} {c : Code} {b Lx : Nat} {xs : Nat → Int32} {N : Nat} {Inv : SI → (Nat → Nat → Nat) → Prop} {σ : SI} {R : Nat → Nat → Nat} {L : Nat → Nat → Int64} {x4 : Int32} {cells slots : Nat} (C : Cx l g p s m meth c cL_law 7 RL) (hX : va_X b Lx xs s s.heap) (hbl : b < s.heap.size) (hbA : ¬ gA g b) (hI : Inv σ R) (hIS : InvOk Inv) (hAg : Ag_33 N Inv) (h1 : vp_in (x4 + 1) Lx) (h2 : vp_in (x4 + 2) Lx) (hcs : cells + 4 ≤ 601024 ∧ slots + 24 ≤ 7293034) (kk : ∀ (σ' : SI) (R' : Nat → Nat → Nat) (L' : Nat → Nat → Int64) (H : Heap) (locs : List Loc) (ls : Array Slot), Inv σ' R' → S2 g s σ' R' L' H locs → lv_has ls 7 [(0, .ref b), (1, .ref (gb g + 1)), (2, .ref (gb g + 178)), (3, .ref (gb g + 194)), (4, .int x4)] → W p l e room_1 s m #[Value.ref b] below meth c H locs (cells + 4) (slots + 24) (lw_Z below #[Value.ref b] s) (F0 m 3423 ls [])) : ∀ (H : Heap) (locs : List Loc) (ls : Array Slot), S2 g s σ R L H locs → lv_has ls 7 [(0, .ref b), (1, .ref (gb g + 1)), (2, .ref (gb g + 178)), (3, .ref (gb g + 194)), (4, .int x4)] → W p l e room_1 s m #[Value.ref b] below meth c H locs (cells) (slots) (lw_Z below #[Value.ref b] s) (F0 m 2041 ls []) := by
  intro H locs ls S hl
  obtain ⟨hc1, hc2⟩ := hcs
  have hx := C.1
  have hb := C.2.1
  have hSh := hIS σ R hI
  obtain ⟨res, σ1, b2, σ2, hm, hmod, hI2, hret, hthr⟩ := hAg σ R (xs (x4 + 1).toNatClampNeg) (xs (x4 + 2).toNatClampNeg) hI
  cases res with
  | inl v =>
    obtain ⟨ht, rfl⟩ := hret v rfl
    refine lv_aload_n hx hb dL_law_2041 rfl (lv_at hl 1 rfl) ?_
    refine lv_aload_n hx hb dL_law_2042 rfl (lv_at hl 0 rfl) ?_
    refine lv_iload hx hb dL_law_2043 (lv_at hl 4 rfl) ?_
    refine lv_iconst (v := (1 : Int32)) hx hb dL_law_2045 (by decide) ?_
    refine lv_iadd hx hb dL_law_2046 ?_
    refine va_sld hx hb hX hbl hbA S.2 h1 dL_law_2047 ?_
    refine lv_aload_n hx hb dL_law_2048 rfl (lv_at hl 0 rfl) ?_
    refine lv_iload hx hb dL_law_2049 (lv_at hl 4 rfl) ?_
    refine lv_iconst (v := (2 : Int32)) hx hb dL_law_2051 (by decide) ?_
    refine lv_iadd hx hb dL_law_2052 ?_
    refine va_sld hx hb hX hbl hbA S.2 h2 dL_law_2053 ?_
    refine lv_aload_n hx hb dL_law_2054 rfl (lv_at hl 3 rfl) ?_
    refine v_callW C S (h_reasonCount_ret (L := L) hm hSh ok_1 ok_194) ⟨cd_L_reasonCount, ni_RL, ml_RL_280, st_L_reasonCount⟩ ⟨by decide, by decide⟩ rfl ⟨by decide, by decide⟩ hl.1 rfl (Nat.le_of_ble_eq_true rfl) ⟨by show _ ≤ 601024; omega, by show _ ≤ 7293034; omega⟩ dL_law_2055 (fun w σ' H locs hp S => ?_)
    obtain ⟨rfl, rfl⟩ := hp
    have S : S2 g s σ1 R (fun a j => if a = 194 ∧ j = 0 then v.toInt64 else L a j) H locs := S
    obtain ⟨L1, hL1, hLv⟩ : ∃ L1 : Nat → Nat → Int64, (fun a j => if a = 194 ∧ j = 0 then v.toInt64 else L a j) = L1 ∧ L1 194 0 = v.toInt64 := ⟨_, rfl, if_pos ⟨rfl, rfl⟩⟩
    rw [hL1] at S
    refine lv_istore (lv' := [(5, .int 0), (0, .ref b), (1, .ref (gb g + 1)), (2, .ref (gb g + 178)), (3, .ref (gb g + 194)), (4, .int x4)]) hx hb dL_law_2058 hl (by decide) rfl (fun ls hl => ?_)
    refine lv_aload_n hx hb dL_law_2060 rfl (lv_at hl 3 rfl) ?_
    refine lv_aload_n hx hb dL_law_2061 rfl (lv_at hl 1 rfl) ?_
    refine lv_iload hx hb dL_law_2062 (lv_at hl 5 rfl) ?_
    refine lv_iconst (v := (1 : Int32)) hx hb dL_law_2064 (by decide) ?_
    refine lv_iadd hx hb dL_law_2065 ?_
    refine va_sld hx hb hX hbl hbA S.2 h1 dL_law_2066 ?_
    refine lv_aload_n hx hb dL_law_2067 rfl (lv_at hl 1 rfl) ?_
    refine lv_iload hx hb dL_law_2068 (lv_at hl 5 rfl) ?_
    refine lv_iconst (v := (2 : Int32)) hx hb dL_law_2070 (by decide) ?_
    refine lv_iadd hx hb dL_law_2071 ?_
    refine va_sld hx hb hX hbl hbA S.2 h2 dL_law_2072 ?_
    refine x_callVI C S KX12 ok_178 (ok_X12_reasonCount (L := L1) hmod hSh ok_178) ⟨cd_X12_reasonCount, ni_RX12, ml_RL_282, in_X12_reasonCount, sl_X12_reasonCount⟩ ⟨by decide, by decide⟩ rfl ⟨by decide, by decide⟩ hl.1 rfl (Nat.le_of_ble_eq_true rfl) ⟨by show _ ≤ 601024; omega, by show _ ≤ 7293034; omega⟩ dL_law_2073 (fun H locs S => ?_)
    refine lv_istore (lv' := [(6, .int v), (5, .int 0), (0, .ref b), (1, .ref (gb g + 1)), (2, .ref (gb g + 178)), (3, .ref (gb g + 194)), (4, .int x4)]) hx hb dL_law_2076 hl (by decide) rfl (fun ls hl => ?_)
    refine lv_aload_n hx hb dL_law_2078 rfl (lv_at hl 4 rfl) ?_
    refine x_callVI C S KX12 ok_178 (ok_X12_thrown (L := L1) (thr_eq N R σ2 178) hSh ok_178) ⟨cd_X12_thrown, ni_RX12, ml_RL_178, in_X12_thrown, sl_X12_thrown⟩ ⟨by decide, by decide⟩ rfl ⟨by decide, by decide⟩ hl.1 rfl (Nat.le_of_ble_eq_true rfl) ⟨by show _ ≤ 601024; omega, by show _ ≤ 7293034; omega⟩ dL_law_2079 (fun H locs S => ?_)
    refine lv_iload hx hb dL_law_2082 (lv_at hl 1 rfl) ?_
    refine lv_icmp_eq (tgt := 2089) hx hb dL_law_2084 (by decide) (fun c1 => ?_) (fun c1 => absurd ht c1)
    refine lv_iload hx hb dL_law_2089 (lv_at hl 1 rfl) ?_
    refine lv_if_ne (tgt := 2106) hx hb dL_law_2091 (by decide) (fun c2 => absurd rfl c2) (fun c2 => ?_)
    refine lv_aload_n hx hb dL_law_2094 rfl (lv_at hl 5 rfl) ?_
    refine lv_iconst (v := (0 : Int32)) hx hb dL_law_2095 (by decide) ?_
    refine x_lald C S ok_194 dL_law_2096 ?_
    refine lv_iload hx hb dL_law_2097 (lv_at hl 0 rfl) ?_
    refine lv_i2l hx hb dL_law_2099 rfl ?_
    refine W.lcmp hx hb dL_law_2100 ?_
    refine lv_if_eq (tgt := 2106) hx hb dL_law_2101 (by decide) (fun c4 => ?_) (fun c4 => absurd (by show lg_cmp (L1 194 0) _ = 0; rw [hLv]; exact lgc_self _) c4)
    refine lv_goto (tgt := 3423) hx hb dL_law_2106 (by decide) ?_
    exact W.widen (k := cells + 4) (n := slots + 24) (by omega) (by omega) (kk σ2 R L1 H locs ls hI2 S (lv_sub hl [2, 3, 4, 5, 6] rfl))
  | inr q =>
    rcases hthr q rfl with ⟨rfl, ht⟩ | ⟨rfl, ht⟩
    · refine lv_aload_n hx hb dL_law_2041 rfl (lv_at hl 1 rfl) ?_
      refine lv_aload_n hx hb dL_law_2042 rfl (lv_at hl 0 rfl) ?_
      refine lv_iload hx hb dL_law_2043 (lv_at hl 4 rfl) ?_
      refine lv_iconst (v := (1 : Int32)) hx hb dL_law_2045 (by decide) ?_
      refine lv_iadd hx hb dL_law_2046 ?_
      refine va_sld hx hb hX hbl hbA S.2 h1 dL_law_2047 ?_
      refine lv_aload_n hx hb dL_law_2048 rfl (lv_at hl 0 rfl) ?_
      refine lv_iload hx hb dL_law_2049 (lv_at hl 4 rfl) ?_
      refine lv_iconst (v := (2 : Int32)) hx hb dL_law_2051 (by decide) ?_
      refine lv_iadd hx hb dL_law_2052 ?_
      refine va_sld hx hb hX hbl hbA S.2 h2 dL_law_2053 ?_
      refine lv_aload_n hx hb dL_law_2054 rfl (lv_at hl 3 rfl) ?_
      refine v_callW C S (h_reasonCount_x0 (L := L) hm hSh ok_1 ok_194) ⟨cd_L_reasonCount, ni_RL, ml_RL_280, st_L_reasonCount⟩ ⟨by decide, by decide⟩ rfl ⟨by decide, by decide⟩ hl.1 rfl (Nat.le_of_ble_eq_true rfl) ⟨by show _ ≤ 601024; omega, by show _ ≤ 7293034; omega⟩ dL_law_2055 (fun w σ' H locs hp S => ?_)
      obtain ⟨rfl, rfl⟩ := hp
      have S : S2 g s σ1 R L H locs := S
      refine lv_istore (lv' := [(5, .int 1), (0, .ref b), (1, .ref (gb g + 1)), (2, .ref (gb g + 178)), (3, .ref (gb g + 194)), (4, .int x4)]) hx hb dL_law_2058 hl (by decide) rfl (fun ls hl => ?_)
      refine lv_aload_n hx hb dL_law_2060 rfl (lv_at hl 3 rfl) ?_
      refine lv_aload_n hx hb dL_law_2061 rfl (lv_at hl 1 rfl) ?_
      refine lv_iload hx hb dL_law_2062 (lv_at hl 5 rfl) ?_
      refine lv_iconst (v := (1 : Int32)) hx hb dL_law_2064 (by decide) ?_
      refine lv_iadd hx hb dL_law_2065 ?_
      refine va_sld hx hb hX hbl hbA S.2 h1 dL_law_2066 ?_
      refine lv_aload_n hx hb dL_law_2067 rfl (lv_at hl 1 rfl) ?_
      refine lv_iload hx hb dL_law_2068 (lv_at hl 5 rfl) ?_
      refine lv_iconst (v := (2 : Int32)) hx hb dL_law_2070 (by decide) ?_
      refine lv_iadd hx hb dL_law_2071 ?_
      refine va_sld hx hb hX hbl hbA S.2 h2 dL_law_2072 ?_
      refine x_callVI C S KX12 ok_178 (ok_X12_reasonCount (L := L) hmod hSh ok_178) ⟨cd_X12_reasonCount, ni_RX12, ml_RL_282, in_X12_reasonCount, sl_X12_reasonCount⟩ ⟨by decide, by decide⟩ rfl ⟨by decide, by decide⟩ hl.1 rfl (Nat.le_of_ble_eq_true rfl) ⟨by show _ ≤ 601024; omega, by show _ ≤ 7293034; omega⟩ dL_law_2073 (fun H locs S => ?_)
      refine lv_istore (lv' := [(6, .int b2), (5, .int 1), (0, .ref b), (1, .ref (gb g + 1)), (2, .ref (gb g + 178)), (3, .ref (gb g + 194)), (4, .int x4)]) hx hb dL_law_2076 hl (by decide) rfl (fun ls hl => ?_)
      refine lv_aload_n hx hb dL_law_2078 rfl (lv_at hl 4 rfl) ?_
      refine x_callVI C S KX12 ok_178 (ok_X12_thrown (L := L) (thr_eq N R σ2 178) hSh ok_178) ⟨cd_X12_thrown, ni_RX12, ml_RL_178, in_X12_thrown, sl_X12_thrown⟩ ⟨by decide, by decide⟩ rfl ⟨by decide, by decide⟩ hl.1 rfl (Nat.le_of_ble_eq_true rfl) ⟨by show _ ≤ 601024; omega, by show _ ≤ 7293034; omega⟩ dL_law_2079 (fun H locs S => ?_)
      refine lv_iload hx hb dL_law_2082 (lv_at hl 1 rfl) ?_
      refine lv_icmp_eq (tgt := 2089) hx hb dL_law_2084 (by decide) (fun c1 => ?_) (fun c1 => absurd ht c1)
      refine lv_iload hx hb dL_law_2089 (lv_at hl 1 rfl) ?_
      refine lv_if_ne (tgt := 2106) hx hb dL_law_2091 (by decide) (fun c2 => ?_) (fun c2 => absurd c2 (by decide))
      refine lv_goto (tgt := 3423) hx hb dL_law_2106 (by decide) ?_
      exact W.widen (k := cells + 4) (n := slots + 24) (by omega) (by omega) (kk σ2 R L H locs ls hI2 S (lv_sub hl [2, 3, 4, 5, 6] rfl))
    · refine lv_aload_n hx hb dL_law_2041 rfl (lv_at hl 1 rfl) ?_
      refine lv_aload_n hx hb dL_law_2042 rfl (lv_at hl 0 rfl) ?_
      refine lv_iload hx hb dL_law_2043 (lv_at hl 4 rfl) ?_
      refine lv_iconst (v := (1 : Int32)) hx hb dL_law_2045 (by decide) ?_
      refine lv_iadd hx hb dL_law_2046 ?_
      refine va_sld hx hb hX hbl hbA S.2 h1 dL_law_2047 ?_
      refine lv_aload_n hx hb dL_law_2048 rfl (lv_at hl 0 rfl) ?_
      refine lv_iload hx hb dL_law_2049 (lv_at hl 4 rfl) ?_
      refine lv_iconst (v := (2 : Int32)) hx hb dL_law_2051 (by decide) ?_
      refine lv_iadd hx hb dL_law_2052 ?_
      refine va_sld hx hb hX hbl hbA S.2 h2 dL_law_2053 ?_
      refine lv_aload_n hx hb dL_law_2054 rfl (lv_at hl 3 rfl) ?_
      refine v_callW C S (h_reasonCount_x1 (L := L) hm hSh ok_1 ok_194) ⟨cd_L_reasonCount, ni_RL, ml_RL_280, st_L_reasonCount⟩ ⟨by decide, by decide⟩ rfl ⟨by decide, by decide⟩ hl.1 rfl (Nat.le_of_ble_eq_true rfl) ⟨by show _ ≤ 601024; omega, by show _ ≤ 7293034; omega⟩ dL_law_2055 (fun w σ' H locs hp S => ?_)
      obtain ⟨rfl, rfl⟩ := hp
      have S : S2 g s σ1 R L H locs := S
      refine lv_istore (lv' := [(5, .int 2), (0, .ref b), (1, .ref (gb g + 1)), (2, .ref (gb g + 178)), (3, .ref (gb g + 194)), (4, .int x4)]) hx hb dL_law_2058 hl (by decide) rfl (fun ls hl => ?_)
      refine lv_aload_n hx hb dL_law_2060 rfl (lv_at hl 3 rfl) ?_
      refine lv_aload_n hx hb dL_law_2061 rfl (lv_at hl 1 rfl) ?_
      refine lv_iload hx hb dL_law_2062 (lv_at hl 5 rfl) ?_
      refine lv_iconst (v := (1 : Int32)) hx hb dL_law_2064 (by decide) ?_
      refine lv_iadd hx hb dL_law_2065 ?_
      refine va_sld hx hb hX hbl hbA S.2 h1 dL_law_2066 ?_
      refine lv_aload_n hx hb dL_law_2067 rfl (lv_at hl 1 rfl) ?_
      refine lv_iload hx hb dL_law_2068 (lv_at hl 5 rfl) ?_
      refine lv_iconst (v := (2 : Int32)) hx hb dL_law_2070 (by decide) ?_
      refine lv_iadd hx hb dL_law_2071 ?_
      refine va_sld hx hb hX hbl hbA S.2 h2 dL_law_2072 ?_
      refine x_callVI C S KX12 ok_178 (ok_X12_reasonCount (L := L) hmod hSh ok_178) ⟨cd_X12_reasonCount, ni_RX12, ml_RL_282, in_X12_reasonCount, sl_X12_reasonCount⟩ ⟨by decide, by decide⟩ rfl ⟨by decide, by decide⟩ hl.1 rfl (Nat.le_of_ble_eq_true rfl) ⟨by show _ ≤ 601024; omega, by show _ ≤ 7293034; omega⟩ dL_law_2073 (fun H locs S => ?_)
      refine lv_istore (lv' := [(6, .int b2), (5, .int 2), (0, .ref b), (1, .ref (gb g + 1)), (2, .ref (gb g + 178)), (3, .ref (gb g + 194)), (4, .int x4)]) hx hb dL_law_2076 hl (by decide) rfl (fun ls hl => ?_)
      refine lv_aload_n hx hb dL_law_2078 rfl (lv_at hl 4 rfl) ?_
      refine x_callVI C S KX12 ok_178 (ok_X12_thrown (L := L) (thr_eq N R σ2 178) hSh ok_178) ⟨cd_X12_thrown, ni_RX12, ml_RL_178, in_X12_thrown, sl_X12_thrown⟩ ⟨by decide, by decide⟩ rfl ⟨by decide, by decide⟩ hl.1 rfl (Nat.le_of_ble_eq_true rfl) ⟨by show _ ≤ 601024; omega, by show _ ≤ 7293034; omega⟩ dL_law_2079 (fun H locs S => ?_)
      refine lv_iload hx hb dL_law_2082 (lv_at hl 1 rfl) ?_
      refine lv_icmp_eq (tgt := 2089) hx hb dL_law_2084 (by decide) (fun c1 => ?_) (fun c1 => absurd ht c1)
      refine lv_iload hx hb dL_law_2089 (lv_at hl 1 rfl) ?_
      refine lv_if_ne (tgt := 2106) hx hb dL_law_2091 (by decide) (fun c2 => ?_) (fun c2 => absurd c2 (by decide))
      refine lv_goto (tgt := 3423) hx hb dL_law_2106 (by decide) ?_
      exact W.widen (k := cells + 4) (n := slots + 24) (by omega) (by omega) (kk σ2 R L H locs ls hI2 S (lv_sub hl [2, 3, 4, 5, 6] rfl))
set_option maxHeartbeats 4000000 in
set_option maxRecDepth 100000 in
theorem lc_34 {l : Launch} {g : GL} {p : Program} {e : Jvm.Env} {s : State} {m : MethodId} {below : List Frame} {meth : Method} {c : Code} {b Lx : Nat} {xs : Nat → Int32} {N : Nat} {Inv : SI → (Nat → Nat → Nat) → Prop} {σ : SI} {R : Nat → Nat → Nat} {L : Nat → Nat → Int64} {x4 : Int32} {cells slots : Nat} (C : Cx l g p s m meth c cL_law 7 RL) (hX : va_X b Lx xs s s.heap) (hbl : b < s.heap.size) (hbA : ¬ gA g b) (hI : Inv σ R) (hIS : InvOk Inv) (hAg : Ag_34 N Inv) (h1 : vp_in (x4 + 1) Lx) (hcs : cells + 4 ≤ 601024 ∧ slots + 24 ≤ 7293034) (kk : ∀ (σ' : SI) (R' : Nat → Nat → Nat) (L' : Nat → Nat → Int64) (H : Heap) (locs : List Loc) (ls : Array Slot), Inv σ' R' → S2 g s σ' R' L' H locs → lv_has ls 7 [(0, .ref b), (1, .ref (gb g + 1)), (2, .ref (gb g + 178)), (3, .ref (gb g + 194)), (4, .int x4)] → W p l e room_1 s m #[Value.ref b] below meth c H locs (cells + 4) (slots + 24) (lw_Z below #[Value.ref b] s) (F0 m 3423 ls [])) : ∀ (H : Heap) (locs : List Loc) (ls : Array Slot), S2 g s σ R L H locs → lv_has ls 7 [(0, .ref b), (1, .ref (gb g + 1)), (2, .ref (gb g + 178)), (3, .ref (gb g + 194)), (4, .int x4)] → W p l e room_1 s m #[Value.ref b] below meth c H locs (cells) (slots) (lw_Z below #[Value.ref b] s) (F0 m 2109 ls []) := by
  intro H locs ls S hl
  obtain ⟨hc1, hc2⟩ := hcs
  have hx := C.1
  have hb := C.2.1
  have hSh := hIS σ R hI
  obtain ⟨res, σ1, b2, σ2, hm, hmod, hI2, hret, hthr⟩ := hAg σ R (xs (x4 + 1).toNatClampNeg) hI
  cases res with
  | inl v =>
    obtain ⟨ht, rfl⟩ := hret v rfl
    refine lv_aload_n hx hb dL_law_2109 rfl (lv_at hl 1 rfl) ?_
    refine lv_aload_n hx hb dL_law_2110 rfl (lv_at hl 0 rfl) ?_
    refine lv_iload hx hb dL_law_2111 (lv_at hl 4 rfl) ?_
    refine lv_iconst (v := (1 : Int32)) hx hb dL_law_2113 (by decide) ?_
    refine lv_iadd hx hb dL_law_2114 ?_
    refine va_sld hx hb hX hbl hbA S.2 h1 dL_law_2115 ?_
    refine lv_aload_n hx hb dL_law_2116 rfl (lv_at hl 3 rfl) ?_
    refine v_callW C S (h_longestAllowed_ret (L := L) hm hSh ok_1 ok_194) ⟨cd_L_longestAllowed, ni_RL, ml_RL_283, st_L_longestAllowed⟩ ⟨by decide, by decide⟩ rfl ⟨by decide, by decide⟩ hl.1 rfl (Nat.le_of_ble_eq_true rfl) ⟨by show _ ≤ 601024; omega, by show _ ≤ 7293034; omega⟩ dL_law_2117 (fun w σ' H locs hp S => ?_)
    obtain ⟨rfl, rfl⟩ := hp
    have S : S2 g s σ1 R (fun a j => if a = 194 ∧ j = 0 then v.toInt64 else L a j) H locs := S
    obtain ⟨L1, hL1, hLv⟩ : ∃ L1 : Nat → Nat → Int64, (fun a j => if a = 194 ∧ j = 0 then v.toInt64 else L a j) = L1 ∧ L1 194 0 = v.toInt64 := ⟨_, rfl, if_pos ⟨rfl, rfl⟩⟩
    rw [hL1] at S
    refine lv_istore (lv' := [(5, .int 0), (0, .ref b), (1, .ref (gb g + 1)), (2, .ref (gb g + 178)), (3, .ref (gb g + 194)), (4, .int x4)]) hx hb dL_law_2120 hl (by decide) rfl (fun ls hl => ?_)
    refine lv_aload_n hx hb dL_law_2122 rfl (lv_at hl 3 rfl) ?_
    refine lv_aload_n hx hb dL_law_2123 rfl (lv_at hl 1 rfl) ?_
    refine lv_iload hx hb dL_law_2124 (lv_at hl 5 rfl) ?_
    refine lv_iconst (v := (1 : Int32)) hx hb dL_law_2126 (by decide) ?_
    refine lv_iadd hx hb dL_law_2127 ?_
    refine va_sld hx hb hX hbl hbA S.2 h1 dL_law_2128 ?_
    refine x_callVI C S KX12 ok_178 (ok_X12_longestAllowed (L := L1) hmod hSh ok_178) ⟨cd_X12_longestAllowed, ni_RX12, ml_RL_285, in_X12_longestAllowed, sl_X12_longestAllowed⟩ ⟨by decide, by decide⟩ rfl ⟨by decide, by decide⟩ hl.1 rfl (Nat.le_of_ble_eq_true rfl) ⟨by show _ ≤ 601024; omega, by show _ ≤ 7293034; omega⟩ dL_law_2129 (fun H locs S => ?_)
    refine lv_istore (lv' := [(6, .int v), (5, .int 0), (0, .ref b), (1, .ref (gb g + 1)), (2, .ref (gb g + 178)), (3, .ref (gb g + 194)), (4, .int x4)]) hx hb dL_law_2132 hl (by decide) rfl (fun ls hl => ?_)
    refine lv_aload_n hx hb dL_law_2134 rfl (lv_at hl 4 rfl) ?_
    refine x_callVI C S KX12 ok_178 (ok_X12_thrown (L := L1) (thr_eq N R σ2 178) hSh ok_178) ⟨cd_X12_thrown, ni_RX12, ml_RL_178, in_X12_thrown, sl_X12_thrown⟩ ⟨by decide, by decide⟩ rfl ⟨by decide, by decide⟩ hl.1 rfl (Nat.le_of_ble_eq_true rfl) ⟨by show _ ≤ 601024; omega, by show _ ≤ 7293034; omega⟩ dL_law_2135 (fun H locs S => ?_)
    refine lv_iload hx hb dL_law_2138 (lv_at hl 1 rfl) ?_
    refine lv_icmp_eq (tgt := 2145) hx hb dL_law_2140 (by decide) (fun c1 => ?_) (fun c1 => absurd ht c1)
    refine lv_iload hx hb dL_law_2145 (lv_at hl 1 rfl) ?_
    refine lv_if_ne (tgt := 2162) hx hb dL_law_2147 (by decide) (fun c2 => absurd rfl c2) (fun c2 => ?_)
    refine lv_aload_n hx hb dL_law_2150 rfl (lv_at hl 5 rfl) ?_
    refine lv_iconst (v := (0 : Int32)) hx hb dL_law_2151 (by decide) ?_
    refine x_lald C S ok_194 dL_law_2152 ?_
    refine lv_iload hx hb dL_law_2153 (lv_at hl 0 rfl) ?_
    refine lv_i2l hx hb dL_law_2155 rfl ?_
    refine W.lcmp hx hb dL_law_2156 ?_
    refine lv_if_eq (tgt := 2162) hx hb dL_law_2157 (by decide) (fun c4 => ?_) (fun c4 => absurd (by show lg_cmp (L1 194 0) _ = 0; rw [hLv]; exact lgc_self _) c4)
    refine lv_goto (tgt := 3423) hx hb dL_law_2162 (by decide) ?_
    exact W.widen (k := cells + 4) (n := slots + 24) (by omega) (by omega) (kk σ2 R L1 H locs ls hI2 S (lv_sub hl [2, 3, 4, 5, 6] rfl))
  | inr q =>
    obtain ⟨rfl, ht⟩ := hthr q rfl
    refine lv_aload_n hx hb dL_law_2109 rfl (lv_at hl 1 rfl) ?_
    refine lv_aload_n hx hb dL_law_2110 rfl (lv_at hl 0 rfl) ?_
    refine lv_iload hx hb dL_law_2111 (lv_at hl 4 rfl) ?_
    refine lv_iconst (v := (1 : Int32)) hx hb dL_law_2113 (by decide) ?_
    refine lv_iadd hx hb dL_law_2114 ?_
    refine va_sld hx hb hX hbl hbA S.2 h1 dL_law_2115 ?_
    refine lv_aload_n hx hb dL_law_2116 rfl (lv_at hl 3 rfl) ?_
    refine v_callW C S (h_longestAllowed_x0 (L := L) hm hSh ok_1 ok_194) ⟨cd_L_longestAllowed, ni_RL, ml_RL_283, st_L_longestAllowed⟩ ⟨by decide, by decide⟩ rfl ⟨by decide, by decide⟩ hl.1 rfl (Nat.le_of_ble_eq_true rfl) ⟨by show _ ≤ 601024; omega, by show _ ≤ 7293034; omega⟩ dL_law_2117 (fun w σ' H locs hp S => ?_)
    obtain ⟨rfl, rfl⟩ := hp
    have S : S2 g s σ1 R L H locs := S
    refine lv_istore (lv' := [(5, .int 1), (0, .ref b), (1, .ref (gb g + 1)), (2, .ref (gb g + 178)), (3, .ref (gb g + 194)), (4, .int x4)]) hx hb dL_law_2120 hl (by decide) rfl (fun ls hl => ?_)
    refine lv_aload_n hx hb dL_law_2122 rfl (lv_at hl 3 rfl) ?_
    refine lv_aload_n hx hb dL_law_2123 rfl (lv_at hl 1 rfl) ?_
    refine lv_iload hx hb dL_law_2124 (lv_at hl 5 rfl) ?_
    refine lv_iconst (v := (1 : Int32)) hx hb dL_law_2126 (by decide) ?_
    refine lv_iadd hx hb dL_law_2127 ?_
    refine va_sld hx hb hX hbl hbA S.2 h1 dL_law_2128 ?_
    refine x_callVI C S KX12 ok_178 (ok_X12_longestAllowed (L := L) hmod hSh ok_178) ⟨cd_X12_longestAllowed, ni_RX12, ml_RL_285, in_X12_longestAllowed, sl_X12_longestAllowed⟩ ⟨by decide, by decide⟩ rfl ⟨by decide, by decide⟩ hl.1 rfl (Nat.le_of_ble_eq_true rfl) ⟨by show _ ≤ 601024; omega, by show _ ≤ 7293034; omega⟩ dL_law_2129 (fun H locs S => ?_)
    refine lv_istore (lv' := [(6, .int b2), (5, .int 1), (0, .ref b), (1, .ref (gb g + 1)), (2, .ref (gb g + 178)), (3, .ref (gb g + 194)), (4, .int x4)]) hx hb dL_law_2132 hl (by decide) rfl (fun ls hl => ?_)
    refine lv_aload_n hx hb dL_law_2134 rfl (lv_at hl 4 rfl) ?_
    refine x_callVI C S KX12 ok_178 (ok_X12_thrown (L := L) (thr_eq N R σ2 178) hSh ok_178) ⟨cd_X12_thrown, ni_RX12, ml_RL_178, in_X12_thrown, sl_X12_thrown⟩ ⟨by decide, by decide⟩ rfl ⟨by decide, by decide⟩ hl.1 rfl (Nat.le_of_ble_eq_true rfl) ⟨by show _ ≤ 601024; omega, by show _ ≤ 7293034; omega⟩ dL_law_2135 (fun H locs S => ?_)
    refine lv_iload hx hb dL_law_2138 (lv_at hl 1 rfl) ?_
    refine lv_icmp_eq (tgt := 2145) hx hb dL_law_2140 (by decide) (fun c1 => ?_) (fun c1 => absurd ht c1)
    refine lv_iload hx hb dL_law_2145 (lv_at hl 1 rfl) ?_
    refine lv_if_ne (tgt := 2162) hx hb dL_law_2147 (by decide) (fun c2 => ?_) (fun c2 => absurd c2 (by decide))
    refine lv_goto (tgt := 3423) hx hb dL_law_2162 (by decide) ?_
    exact W.widen (k := cells + 4) (n := slots + 24) (by omega) (by omega) (kk σ2 R L H locs ls hI2 S (lv_sub hl [2, 3, 4, 5, 6] rfl))
set_option maxHeartbeats 4000000 in
set_option maxRecDepth 100000 in
theorem lc_35 {l : Launch} {g : GL} {p : Program} {e : Jvm.Env} {s : State} {m : MethodId} {below : List Frame} {meth : Method} {c : Code} {b Lx : Nat} {xs : Nat → Int32} {N : Nat} {Inv : SI → (Nat → Nat → Nat) → Prop} {σ : SI} {R : Nat → Nat → Nat} {L : Nat → Nat → Int64} {x4 : Int32} {cells slots : Nat} (C : Cx l g p s m meth c cL_law 7 RL) (hX : va_X b Lx xs s s.heap) (hbl : b < s.heap.size) (hbA : ¬ gA g b) (hI : Inv σ R) (hIS : InvOk Inv) (hAg : Ag_35 N Inv) (h1 : vp_in (x4 + 1) Lx) (hcs : cells + 4 ≤ 601024 ∧ slots + 24 ≤ 7293034) (kk : ∀ (σ' : SI) (R' : Nat → Nat → Nat) (L' : Nat → Nat → Int64) (H : Heap) (locs : List Loc) (ls : Array Slot), Inv σ' R' → S2 g s σ' R' L' H locs → lv_has ls 7 [(0, .ref b), (1, .ref (gb g + 1)), (2, .ref (gb g + 178)), (3, .ref (gb g + 194)), (4, .int x4)] → W p l e room_1 s m #[Value.ref b] below meth c H locs (cells + 4) (slots + 24) (lw_Z below #[Value.ref b] s) (F0 m 3423 ls [])) : ∀ (H : Heap) (locs : List Loc) (ls : Array Slot), S2 g s σ R L H locs → lv_has ls 7 [(0, .ref b), (1, .ref (gb g + 1)), (2, .ref (gb g + 178)), (3, .ref (gb g + 194)), (4, .int x4)] → W p l e room_1 s m #[Value.ref b] below meth c H locs (cells) (slots) (lw_Z below #[Value.ref b] s) (F0 m 2165 ls []) := by
  intro H locs ls S hl
  obtain ⟨hc1, hc2⟩ := hcs
  have hx := C.1
  have hb := C.2.1
  have hSh := hIS σ R hI
  obtain ⟨res, σ1, b2, σ2, hm, hmod, hI2, hret, hthr⟩ := hAg σ R (xs (x4 + 1).toNatClampNeg) hI
  cases res with
  | inl v =>
    obtain ⟨ht, rfl⟩ := hret v rfl
    refine lv_aload_n hx hb dL_law_2165 rfl (lv_at hl 1 rfl) ?_
    refine lv_aload_n hx hb dL_law_2166 rfl (lv_at hl 0 rfl) ?_
    refine lv_iload hx hb dL_law_2167 (lv_at hl 4 rfl) ?_
    refine lv_iconst (v := (1 : Int32)) hx hb dL_law_2169 (by decide) ?_
    refine lv_iadd hx hb dL_law_2170 ?_
    refine va_sld hx hb hX hbl hbA S.2 h1 dL_law_2171 ?_
    refine lv_aload_n hx hb dL_law_2172 rfl (lv_at hl 3 rfl) ?_
    refine v_callW C S (h_allowedCount_ret (L := L) hm hSh ok_1 ok_194) ⟨cd_L_allowedCount, ni_RL, ml_RL_286, st_L_allowedCount⟩ ⟨by decide, by decide⟩ rfl ⟨by decide, by decide⟩ hl.1 rfl (Nat.le_of_ble_eq_true rfl) ⟨by show _ ≤ 601024; omega, by show _ ≤ 7293034; omega⟩ dL_law_2173 (fun w σ' H locs hp S => ?_)
    obtain ⟨rfl, rfl⟩ := hp
    have S : S2 g s σ1 R (fun a j => if a = 194 ∧ j = 0 then v.toInt64 else L a j) H locs := S
    obtain ⟨L1, hL1, hLv⟩ : ∃ L1 : Nat → Nat → Int64, (fun a j => if a = 194 ∧ j = 0 then v.toInt64 else L a j) = L1 ∧ L1 194 0 = v.toInt64 := ⟨_, rfl, if_pos ⟨rfl, rfl⟩⟩
    rw [hL1] at S
    refine lv_istore (lv' := [(5, .int 0), (0, .ref b), (1, .ref (gb g + 1)), (2, .ref (gb g + 178)), (3, .ref (gb g + 194)), (4, .int x4)]) hx hb dL_law_2176 hl (by decide) rfl (fun ls hl => ?_)
    refine lv_aload_n hx hb dL_law_2178 rfl (lv_at hl 3 rfl) ?_
    refine lv_aload_n hx hb dL_law_2179 rfl (lv_at hl 1 rfl) ?_
    refine lv_iload hx hb dL_law_2180 (lv_at hl 5 rfl) ?_
    refine lv_iconst (v := (1 : Int32)) hx hb dL_law_2182 (by decide) ?_
    refine lv_iadd hx hb dL_law_2183 ?_
    refine va_sld hx hb hX hbl hbA S.2 h1 dL_law_2184 ?_
    refine x_callVI C S KX12 ok_178 (ok_X12_allowedCount (L := L1) hmod hSh ok_178) ⟨cd_X12_allowedCount, ni_RX12, ml_RL_288, in_X12_allowedCount, sl_X12_allowedCount⟩ ⟨by decide, by decide⟩ rfl ⟨by decide, by decide⟩ hl.1 rfl (Nat.le_of_ble_eq_true rfl) ⟨by show _ ≤ 601024; omega, by show _ ≤ 7293034; omega⟩ dL_law_2185 (fun H locs S => ?_)
    refine lv_istore (lv' := [(6, .int v), (5, .int 0), (0, .ref b), (1, .ref (gb g + 1)), (2, .ref (gb g + 178)), (3, .ref (gb g + 194)), (4, .int x4)]) hx hb dL_law_2188 hl (by decide) rfl (fun ls hl => ?_)
    refine lv_aload_n hx hb dL_law_2190 rfl (lv_at hl 4 rfl) ?_
    refine x_callVI C S KX12 ok_178 (ok_X12_thrown (L := L1) (thr_eq N R σ2 178) hSh ok_178) ⟨cd_X12_thrown, ni_RX12, ml_RL_178, in_X12_thrown, sl_X12_thrown⟩ ⟨by decide, by decide⟩ rfl ⟨by decide, by decide⟩ hl.1 rfl (Nat.le_of_ble_eq_true rfl) ⟨by show _ ≤ 601024; omega, by show _ ≤ 7293034; omega⟩ dL_law_2191 (fun H locs S => ?_)
    refine lv_iload hx hb dL_law_2194 (lv_at hl 1 rfl) ?_
    refine lv_icmp_eq (tgt := 2201) hx hb dL_law_2196 (by decide) (fun c1 => ?_) (fun c1 => absurd ht c1)
    refine lv_iload hx hb dL_law_2201 (lv_at hl 1 rfl) ?_
    refine lv_if_ne (tgt := 2218) hx hb dL_law_2203 (by decide) (fun c2 => absurd rfl c2) (fun c2 => ?_)
    refine lv_aload_n hx hb dL_law_2206 rfl (lv_at hl 5 rfl) ?_
    refine lv_iconst (v := (0 : Int32)) hx hb dL_law_2207 (by decide) ?_
    refine x_lald C S ok_194 dL_law_2208 ?_
    refine lv_iload hx hb dL_law_2209 (lv_at hl 0 rfl) ?_
    refine lv_i2l hx hb dL_law_2211 rfl ?_
    refine W.lcmp hx hb dL_law_2212 ?_
    refine lv_if_eq (tgt := 2218) hx hb dL_law_2213 (by decide) (fun c4 => ?_) (fun c4 => absurd (by show lg_cmp (L1 194 0) _ = 0; rw [hLv]; exact lgc_self _) c4)
    refine lv_goto (tgt := 3423) hx hb dL_law_2218 (by decide) ?_
    exact W.widen (k := cells + 4) (n := slots + 24) (by omega) (by omega) (kk σ2 R L1 H locs ls hI2 S (lv_sub hl [2, 3, 4, 5, 6] rfl))
  | inr q =>
    obtain ⟨rfl, ht⟩ := hthr q rfl
    refine lv_aload_n hx hb dL_law_2165 rfl (lv_at hl 1 rfl) ?_
    refine lv_aload_n hx hb dL_law_2166 rfl (lv_at hl 0 rfl) ?_
    refine lv_iload hx hb dL_law_2167 (lv_at hl 4 rfl) ?_
    refine lv_iconst (v := (1 : Int32)) hx hb dL_law_2169 (by decide) ?_
    refine lv_iadd hx hb dL_law_2170 ?_
    refine va_sld hx hb hX hbl hbA S.2 h1 dL_law_2171 ?_
    refine lv_aload_n hx hb dL_law_2172 rfl (lv_at hl 3 rfl) ?_
    refine v_callW C S (h_allowedCount_x0 (L := L) hm hSh ok_1 ok_194) ⟨cd_L_allowedCount, ni_RL, ml_RL_286, st_L_allowedCount⟩ ⟨by decide, by decide⟩ rfl ⟨by decide, by decide⟩ hl.1 rfl (Nat.le_of_ble_eq_true rfl) ⟨by show _ ≤ 601024; omega, by show _ ≤ 7293034; omega⟩ dL_law_2173 (fun w σ' H locs hp S => ?_)
    obtain ⟨rfl, rfl⟩ := hp
    have S : S2 g s σ1 R L H locs := S
    refine lv_istore (lv' := [(5, .int 1), (0, .ref b), (1, .ref (gb g + 1)), (2, .ref (gb g + 178)), (3, .ref (gb g + 194)), (4, .int x4)]) hx hb dL_law_2176 hl (by decide) rfl (fun ls hl => ?_)
    refine lv_aload_n hx hb dL_law_2178 rfl (lv_at hl 3 rfl) ?_
    refine lv_aload_n hx hb dL_law_2179 rfl (lv_at hl 1 rfl) ?_
    refine lv_iload hx hb dL_law_2180 (lv_at hl 5 rfl) ?_
    refine lv_iconst (v := (1 : Int32)) hx hb dL_law_2182 (by decide) ?_
    refine lv_iadd hx hb dL_law_2183 ?_
    refine va_sld hx hb hX hbl hbA S.2 h1 dL_law_2184 ?_
    refine x_callVI C S KX12 ok_178 (ok_X12_allowedCount (L := L) hmod hSh ok_178) ⟨cd_X12_allowedCount, ni_RX12, ml_RL_288, in_X12_allowedCount, sl_X12_allowedCount⟩ ⟨by decide, by decide⟩ rfl ⟨by decide, by decide⟩ hl.1 rfl (Nat.le_of_ble_eq_true rfl) ⟨by show _ ≤ 601024; omega, by show _ ≤ 7293034; omega⟩ dL_law_2185 (fun H locs S => ?_)
    refine lv_istore (lv' := [(6, .int b2), (5, .int 1), (0, .ref b), (1, .ref (gb g + 1)), (2, .ref (gb g + 178)), (3, .ref (gb g + 194)), (4, .int x4)]) hx hb dL_law_2188 hl (by decide) rfl (fun ls hl => ?_)
    refine lv_aload_n hx hb dL_law_2190 rfl (lv_at hl 4 rfl) ?_
    refine x_callVI C S KX12 ok_178 (ok_X12_thrown (L := L) (thr_eq N R σ2 178) hSh ok_178) ⟨cd_X12_thrown, ni_RX12, ml_RL_178, in_X12_thrown, sl_X12_thrown⟩ ⟨by decide, by decide⟩ rfl ⟨by decide, by decide⟩ hl.1 rfl (Nat.le_of_ble_eq_true rfl) ⟨by show _ ≤ 601024; omega, by show _ ≤ 7293034; omega⟩ dL_law_2191 (fun H locs S => ?_)
    refine lv_iload hx hb dL_law_2194 (lv_at hl 1 rfl) ?_
    refine lv_icmp_eq (tgt := 2201) hx hb dL_law_2196 (by decide) (fun c1 => ?_) (fun c1 => absurd ht c1)
    refine lv_iload hx hb dL_law_2201 (lv_at hl 1 rfl) ?_
    refine lv_if_ne (tgt := 2218) hx hb dL_law_2203 (by decide) (fun c2 => ?_) (fun c2 => absurd c2 (by decide))
    refine lv_goto (tgt := 3423) hx hb dL_law_2218 (by decide) ?_
    exact W.widen (k := cells + 4) (n := slots + 24) (by omega) (by omega) (kk σ2 R L H locs ls hI2 S (lv_sub hl [2, 3, 4, 5, 6] rfl))
set_option maxHeartbeats 4000000 in
set_option maxRecDepth 100000 in
theorem lc_36 {l : Launch} {g : GL} {p : Program} {e : Jvm.Env} {s : State} {m : MethodId} {below : List Frame} {meth : Method} {c : Code} {b Lx : Nat} {xs : Nat → Int32} {N : Nat} {Inv : SI → (Nat → Nat → Nat) → Prop} {σ : SI} {R : Nat → Nat → Nat} {L : Nat → Nat → Int64} {x4 : Int32} {cells slots : Nat} (C : Cx l g p s m meth c cL_law 7 RL) (hX : va_X b Lx xs s s.heap) (hbl : b < s.heap.size) (hbA : ¬ gA g b) (hI : Inv σ R) (hIS : InvOk Inv) (hAg : Ag_36 N Inv) (h1 : vp_in (x4 + 1) Lx) (hcs : cells + 4 ≤ 601024 ∧ slots + 24 ≤ 7293034) (kk : ∀ (σ' : SI) (R' : Nat → Nat → Nat) (L' : Nat → Nat → Int64) (H : Heap) (locs : List Loc) (ls : Array Slot), Inv σ' R' → S2 g s σ' R' L' H locs → lv_has ls 7 [(0, .ref b), (1, .ref (gb g + 1)), (2, .ref (gb g + 178)), (3, .ref (gb g + 194)), (4, .int x4)] → W p l e room_1 s m #[Value.ref b] below meth c H locs (cells + 4) (slots + 24) (lw_Z below #[Value.ref b] s) (F0 m 3423 ls [])) : ∀ (H : Heap) (locs : List Loc) (ls : Array Slot), S2 g s σ R L H locs → lv_has ls 7 [(0, .ref b), (1, .ref (gb g + 1)), (2, .ref (gb g + 178)), (3, .ref (gb g + 194)), (4, .int x4)] → W p l e room_1 s m #[Value.ref b] below meth c H locs (cells) (slots) (lw_Z below #[Value.ref b] s) (F0 m 2221 ls []) := by
  intro H locs ls S hl
  obtain ⟨hc1, hc2⟩ := hcs
  have hx := C.1
  have hb := C.2.1
  have hSh := hIS σ R hI
  obtain ⟨b1, σ1, b2, σ2, hm, hmod, hI2, hres⟩ := hAg σ R (xs (x4 + 1).toNatClampNeg) hI
  refine lv_aload_n hx hb dL_law_2221 rfl (lv_at hl 1 rfl) ?_
  refine lv_aload_n hx hb dL_law_2222 rfl (lv_at hl 0 rfl) ?_
  refine lv_iload hx hb dL_law_2223 (lv_at hl 4 rfl) ?_
  refine lv_iconst (v := (1 : Int32)) hx hb dL_law_2225 (by decide) ?_
  refine lv_iadd hx hb dL_law_2226 ?_
  refine va_sld hx hb hX hbl hbA S.2 h1 dL_law_2227 ?_
  refine x_callVI C S KX11 ok_1 (ok_X11_nextBlast (L := L) hm hSh ok_1) ⟨cd_X11_nextBlast, ni_RX11, ml_RL_289, in_X11_nextBlast, sl_X11_nextBlast⟩ ⟨by decide, by decide⟩ rfl ⟨by decide, by decide⟩ hl.1 rfl (Nat.le_of_ble_eq_true rfl) ⟨by show _ ≤ 601024; omega, by show _ ≤ 7293034; omega⟩ dL_law_2228 (fun H locs S => ?_)
  refine lv_aload_n hx hb dL_law_2231 rfl (lv_at hl 2 rfl) ?_
  refine lv_aload_n hx hb dL_law_2232 rfl (lv_at hl 0 rfl) ?_
  refine lv_iload hx hb dL_law_2233 (lv_at hl 4 rfl) ?_
  refine lv_iconst (v := (1 : Int32)) hx hb dL_law_2235 (by decide) ?_
  refine lv_iadd hx hb dL_law_2236 ?_
  refine va_sld hx hb hX hbl hbA S.2 h1 dL_law_2237 ?_
  refine x_callVI C S KX12 ok_178 (ok_X12_nextBlast (L := L) hmod hSh ok_178) ⟨cd_X12_nextBlast, ni_RX12, ml_RL_292, in_X12_nextBlast, sl_X12_nextBlast⟩ ⟨by decide, by decide⟩ rfl ⟨by decide, by decide⟩ hl.1 rfl (Nat.le_of_ble_eq_true rfl) ⟨by show _ ≤ 601024; omega, by show _ ≤ 7293034; omega⟩ dL_law_2238 (fun H locs S => ?_)
  refine lv_icmp_eq (tgt := 3423) hx hb dL_law_2241 (by decide) (fun c1 => ?_) (fun c1 => absurd hres c1)
  exact W.widen (k := cells + 4) (n := slots + 24) (by omega) (by omega) (kk σ2 R L H locs ls hI2 S hl)
set_option maxHeartbeats 4000000 in
set_option maxRecDepth 100000 in
theorem lc_37 {l : Launch} {g : GL} {p : Program} {e : Jvm.Env} {s : State} {m : MethodId} {below : List Frame} {meth : Method} {c : Code} {b Lx : Nat} {xs : Nat → Int32} {N : Nat} {Inv : SI → (Nat → Nat → Nat) → Prop} {σ : SI} {R : Nat → Nat → Nat} {L : Nat → Nat → Int64} {x4 : Int32} {cells slots : Nat} (C : Cx l g p s m meth c cL_law 7 RL) (hX : va_X b Lx xs s s.heap) (hbl : b < s.heap.size) (hbA : ¬ gA g b) (hI : Inv σ R) (hIS : InvOk Inv) (hAg : Ag_37 N Inv) (h1 : vp_in (x4 + 1) Lx) (h2 : vp_in (x4 + 2) Lx) (hcs : cells + 4 ≤ 601024 ∧ slots + 24 ≤ 7293034) (kk : ∀ (σ' : SI) (R' : Nat → Nat → Nat) (L' : Nat → Nat → Int64) (H : Heap) (locs : List Loc) (ls : Array Slot), Inv σ' R' → S2 g s σ' R' L' H locs → lv_has ls 7 [(0, .ref b), (1, .ref (gb g + 1)), (2, .ref (gb g + 178)), (3, .ref (gb g + 194)), (4, .int x4)] → W p l e room_1 s m #[Value.ref b] below meth c H locs (cells + 4) (slots + 24) (lw_Z below #[Value.ref b] s) (F0 m 3423 ls [])) : ∀ (H : Heap) (locs : List Loc) (ls : Array Slot), S2 g s σ R L H locs → lv_has ls 7 [(0, .ref b), (1, .ref (gb g + 1)), (2, .ref (gb g + 178)), (3, .ref (gb g + 194)), (4, .int x4)] → W p l e room_1 s m #[Value.ref b] below meth c H locs (cells) (slots) (lw_Z below #[Value.ref b] s) (F0 m 2246 ls []) := by
  intro H locs ls S hl
  obtain ⟨hc1, hc2⟩ := hcs
  have hx := C.1
  have hb := C.2.1
  have hSh := hIS σ R hI
  obtain ⟨res, σ1, b2, σ2, hm, hmod, hI2, hret, hthr⟩ := hAg σ R (xs (x4 + 1).toNatClampNeg) (xs (x4 + 2).toNatClampNeg) hI
  cases res with
  | inl v =>
    obtain ⟨ht, rfl⟩ := hret v rfl
    refine lv_aload_n hx hb dL_law_2246 rfl (lv_at hl 1 rfl) ?_
    refine lv_aload_n hx hb dL_law_2247 rfl (lv_at hl 0 rfl) ?_
    refine lv_iload hx hb dL_law_2248 (lv_at hl 4 rfl) ?_
    refine lv_iconst (v := (1 : Int32)) hx hb dL_law_2250 (by decide) ?_
    refine lv_iadd hx hb dL_law_2251 ?_
    refine va_sld hx hb hX hbl hbA S.2 h1 dL_law_2252 ?_
    refine lv_aload_n hx hb dL_law_2253 rfl (lv_at hl 0 rfl) ?_
    refine lv_iload hx hb dL_law_2254 (lv_at hl 4 rfl) ?_
    refine lv_iconst (v := (2 : Int32)) hx hb dL_law_2256 (by decide) ?_
    refine lv_iadd hx hb dL_law_2257 ?_
    refine va_sld hx hb hX hbl hbA S.2 h2 dL_law_2258 ?_
    refine lv_aload_n hx hb dL_law_2259 rfl (lv_at hl 3 rfl) ?_
    refine v_callW C S (h_schedule_ret (L := L) hm hSh ok_1 ok_194) ⟨cd_L_schedule, ni_RL, ml_RL_293, st_L_schedule⟩ ⟨by decide, by decide⟩ rfl ⟨by decide, by decide⟩ hl.1 rfl (Nat.le_of_ble_eq_true rfl) ⟨by show _ ≤ 601024; omega, by show _ ≤ 7293034; omega⟩ dL_law_2260 (fun w σ' H locs hp S => ?_)
    obtain ⟨rfl, rfl⟩ := hp
    have S : S2 g s σ1 R (fun a j => if a = 194 ∧ j = 0 then v.toInt64 else L a j) H locs := S
    obtain ⟨L1, hL1, hLv⟩ : ∃ L1 : Nat → Nat → Int64, (fun a j => if a = 194 ∧ j = 0 then v.toInt64 else L a j) = L1 ∧ L1 194 0 = v.toInt64 := ⟨_, rfl, if_pos ⟨rfl, rfl⟩⟩
    rw [hL1] at S
    refine lv_istore (lv' := [(5, .int 0), (0, .ref b), (1, .ref (gb g + 1)), (2, .ref (gb g + 178)), (3, .ref (gb g + 194)), (4, .int x4)]) hx hb dL_law_2263 hl (by decide) rfl (fun ls hl => ?_)
    refine lv_aload_n hx hb dL_law_2265 rfl (lv_at hl 3 rfl) ?_
    refine lv_aload_n hx hb dL_law_2266 rfl (lv_at hl 1 rfl) ?_
    refine lv_iload hx hb dL_law_2267 (lv_at hl 5 rfl) ?_
    refine lv_iconst (v := (1 : Int32)) hx hb dL_law_2269 (by decide) ?_
    refine lv_iadd hx hb dL_law_2270 ?_
    refine va_sld hx hb hX hbl hbA S.2 h1 dL_law_2271 ?_
    refine lv_aload_n hx hb dL_law_2272 rfl (lv_at hl 1 rfl) ?_
    refine lv_iload hx hb dL_law_2273 (lv_at hl 5 rfl) ?_
    refine lv_iconst (v := (2 : Int32)) hx hb dL_law_2275 (by decide) ?_
    refine lv_iadd hx hb dL_law_2276 ?_
    refine va_sld hx hb hX hbl hbA S.2 h2 dL_law_2277 ?_
    refine x_callVI C S KX12 ok_178 (ok_X12_schedule (L := L1) hmod hSh ok_178) ⟨cd_X12_schedule, ni_RX12, ml_RL_295, in_X12_schedule, sl_X12_schedule⟩ ⟨by decide, by decide⟩ rfl ⟨by decide, by decide⟩ hl.1 rfl (Nat.le_of_ble_eq_true rfl) ⟨by show _ ≤ 601024; omega, by show _ ≤ 7293034; omega⟩ dL_law_2278 (fun H locs S => ?_)
    refine lv_istore (lv' := [(6, .int v), (5, .int 0), (0, .ref b), (1, .ref (gb g + 1)), (2, .ref (gb g + 178)), (3, .ref (gb g + 194)), (4, .int x4)]) hx hb dL_law_2281 hl (by decide) rfl (fun ls hl => ?_)
    refine lv_aload_n hx hb dL_law_2283 rfl (lv_at hl 4 rfl) ?_
    refine x_callVI C S KX12 ok_178 (ok_X12_thrown (L := L1) (thr_eq N R σ2 178) hSh ok_178) ⟨cd_X12_thrown, ni_RX12, ml_RL_178, in_X12_thrown, sl_X12_thrown⟩ ⟨by decide, by decide⟩ rfl ⟨by decide, by decide⟩ hl.1 rfl (Nat.le_of_ble_eq_true rfl) ⟨by show _ ≤ 601024; omega, by show _ ≤ 7293034; omega⟩ dL_law_2284 (fun H locs S => ?_)
    refine lv_iload hx hb dL_law_2287 (lv_at hl 1 rfl) ?_
    refine lv_icmp_eq (tgt := 2294) hx hb dL_law_2289 (by decide) (fun c1 => ?_) (fun c1 => absurd ht c1)
    refine lv_iload hx hb dL_law_2294 (lv_at hl 1 rfl) ?_
    refine lv_if_ne (tgt := 2311) hx hb dL_law_2296 (by decide) (fun c2 => absurd rfl c2) (fun c2 => ?_)
    refine lv_aload_n hx hb dL_law_2299 rfl (lv_at hl 5 rfl) ?_
    refine lv_iconst (v := (0 : Int32)) hx hb dL_law_2300 (by decide) ?_
    refine x_lald C S ok_194 dL_law_2301 ?_
    refine lv_iload hx hb dL_law_2302 (lv_at hl 0 rfl) ?_
    refine lv_i2l hx hb dL_law_2304 rfl ?_
    refine W.lcmp hx hb dL_law_2305 ?_
    refine lv_if_eq (tgt := 2311) hx hb dL_law_2306 (by decide) (fun c4 => ?_) (fun c4 => absurd (by show lg_cmp (L1 194 0) _ = 0; rw [hLv]; exact lgc_self _) c4)
    refine lv_goto (tgt := 3423) hx hb dL_law_2311 (by decide) ?_
    exact W.widen (k := cells + 4) (n := slots + 24) (by omega) (by omega) (kk σ2 R L1 H locs ls hI2 S (lv_sub hl [2, 3, 4, 5, 6] rfl))
  | inr q =>
    rcases hthr q rfl with ⟨rfl, ht⟩ | ⟨rfl, ht⟩ | ⟨rfl, ht⟩
    · refine lv_aload_n hx hb dL_law_2246 rfl (lv_at hl 1 rfl) ?_
      refine lv_aload_n hx hb dL_law_2247 rfl (lv_at hl 0 rfl) ?_
      refine lv_iload hx hb dL_law_2248 (lv_at hl 4 rfl) ?_
      refine lv_iconst (v := (1 : Int32)) hx hb dL_law_2250 (by decide) ?_
      refine lv_iadd hx hb dL_law_2251 ?_
      refine va_sld hx hb hX hbl hbA S.2 h1 dL_law_2252 ?_
      refine lv_aload_n hx hb dL_law_2253 rfl (lv_at hl 0 rfl) ?_
      refine lv_iload hx hb dL_law_2254 (lv_at hl 4 rfl) ?_
      refine lv_iconst (v := (2 : Int32)) hx hb dL_law_2256 (by decide) ?_
      refine lv_iadd hx hb dL_law_2257 ?_
      refine va_sld hx hb hX hbl hbA S.2 h2 dL_law_2258 ?_
      refine lv_aload_n hx hb dL_law_2259 rfl (lv_at hl 3 rfl) ?_
      refine v_callW C S (h_schedule_x0 (L := L) hm hSh ok_1 ok_194) ⟨cd_L_schedule, ni_RL, ml_RL_293, st_L_schedule⟩ ⟨by decide, by decide⟩ rfl ⟨by decide, by decide⟩ hl.1 rfl (Nat.le_of_ble_eq_true rfl) ⟨by show _ ≤ 601024; omega, by show _ ≤ 7293034; omega⟩ dL_law_2260 (fun w σ' H locs hp S => ?_)
      obtain ⟨rfl, rfl⟩ := hp
      have S : S2 g s σ1 R L H locs := S
      refine lv_istore (lv' := [(5, .int 1), (0, .ref b), (1, .ref (gb g + 1)), (2, .ref (gb g + 178)), (3, .ref (gb g + 194)), (4, .int x4)]) hx hb dL_law_2263 hl (by decide) rfl (fun ls hl => ?_)
      refine lv_aload_n hx hb dL_law_2265 rfl (lv_at hl 3 rfl) ?_
      refine lv_aload_n hx hb dL_law_2266 rfl (lv_at hl 1 rfl) ?_
      refine lv_iload hx hb dL_law_2267 (lv_at hl 5 rfl) ?_
      refine lv_iconst (v := (1 : Int32)) hx hb dL_law_2269 (by decide) ?_
      refine lv_iadd hx hb dL_law_2270 ?_
      refine va_sld hx hb hX hbl hbA S.2 h1 dL_law_2271 ?_
      refine lv_aload_n hx hb dL_law_2272 rfl (lv_at hl 1 rfl) ?_
      refine lv_iload hx hb dL_law_2273 (lv_at hl 5 rfl) ?_
      refine lv_iconst (v := (2 : Int32)) hx hb dL_law_2275 (by decide) ?_
      refine lv_iadd hx hb dL_law_2276 ?_
      refine va_sld hx hb hX hbl hbA S.2 h2 dL_law_2277 ?_
      refine x_callVI C S KX12 ok_178 (ok_X12_schedule (L := L) hmod hSh ok_178) ⟨cd_X12_schedule, ni_RX12, ml_RL_295, in_X12_schedule, sl_X12_schedule⟩ ⟨by decide, by decide⟩ rfl ⟨by decide, by decide⟩ hl.1 rfl (Nat.le_of_ble_eq_true rfl) ⟨by show _ ≤ 601024; omega, by show _ ≤ 7293034; omega⟩ dL_law_2278 (fun H locs S => ?_)
      refine lv_istore (lv' := [(6, .int b2), (5, .int 1), (0, .ref b), (1, .ref (gb g + 1)), (2, .ref (gb g + 178)), (3, .ref (gb g + 194)), (4, .int x4)]) hx hb dL_law_2281 hl (by decide) rfl (fun ls hl => ?_)
      refine lv_aload_n hx hb dL_law_2283 rfl (lv_at hl 4 rfl) ?_
      refine x_callVI C S KX12 ok_178 (ok_X12_thrown (L := L) (thr_eq N R σ2 178) hSh ok_178) ⟨cd_X12_thrown, ni_RX12, ml_RL_178, in_X12_thrown, sl_X12_thrown⟩ ⟨by decide, by decide⟩ rfl ⟨by decide, by decide⟩ hl.1 rfl (Nat.le_of_ble_eq_true rfl) ⟨by show _ ≤ 601024; omega, by show _ ≤ 7293034; omega⟩ dL_law_2284 (fun H locs S => ?_)
      refine lv_iload hx hb dL_law_2287 (lv_at hl 1 rfl) ?_
      refine lv_icmp_eq (tgt := 2294) hx hb dL_law_2289 (by decide) (fun c1 => ?_) (fun c1 => absurd ht c1)
      refine lv_iload hx hb dL_law_2294 (lv_at hl 1 rfl) ?_
      refine lv_if_ne (tgt := 2311) hx hb dL_law_2296 (by decide) (fun c2 => ?_) (fun c2 => absurd c2 (by decide))
      refine lv_goto (tgt := 3423) hx hb dL_law_2311 (by decide) ?_
      exact W.widen (k := cells + 4) (n := slots + 24) (by omega) (by omega) (kk σ2 R L H locs ls hI2 S (lv_sub hl [2, 3, 4, 5, 6] rfl))
    · refine lv_aload_n hx hb dL_law_2246 rfl (lv_at hl 1 rfl) ?_
      refine lv_aload_n hx hb dL_law_2247 rfl (lv_at hl 0 rfl) ?_
      refine lv_iload hx hb dL_law_2248 (lv_at hl 4 rfl) ?_
      refine lv_iconst (v := (1 : Int32)) hx hb dL_law_2250 (by decide) ?_
      refine lv_iadd hx hb dL_law_2251 ?_
      refine va_sld hx hb hX hbl hbA S.2 h1 dL_law_2252 ?_
      refine lv_aload_n hx hb dL_law_2253 rfl (lv_at hl 0 rfl) ?_
      refine lv_iload hx hb dL_law_2254 (lv_at hl 4 rfl) ?_
      refine lv_iconst (v := (2 : Int32)) hx hb dL_law_2256 (by decide) ?_
      refine lv_iadd hx hb dL_law_2257 ?_
      refine va_sld hx hb hX hbl hbA S.2 h2 dL_law_2258 ?_
      refine lv_aload_n hx hb dL_law_2259 rfl (lv_at hl 3 rfl) ?_
      refine v_callW C S (h_schedule_x1 (L := L) hm hSh ok_1 ok_194) ⟨cd_L_schedule, ni_RL, ml_RL_293, st_L_schedule⟩ ⟨by decide, by decide⟩ rfl ⟨by decide, by decide⟩ hl.1 rfl (Nat.le_of_ble_eq_true rfl) ⟨by show _ ≤ 601024; omega, by show _ ≤ 7293034; omega⟩ dL_law_2260 (fun w σ' H locs hp S => ?_)
      obtain ⟨rfl, rfl⟩ := hp
      have S : S2 g s σ1 R L H locs := S
      refine lv_istore (lv' := [(5, .int 2), (0, .ref b), (1, .ref (gb g + 1)), (2, .ref (gb g + 178)), (3, .ref (gb g + 194)), (4, .int x4)]) hx hb dL_law_2263 hl (by decide) rfl (fun ls hl => ?_)
      refine lv_aload_n hx hb dL_law_2265 rfl (lv_at hl 3 rfl) ?_
      refine lv_aload_n hx hb dL_law_2266 rfl (lv_at hl 1 rfl) ?_
      refine lv_iload hx hb dL_law_2267 (lv_at hl 5 rfl) ?_
      refine lv_iconst (v := (1 : Int32)) hx hb dL_law_2269 (by decide) ?_
      refine lv_iadd hx hb dL_law_2270 ?_
      refine va_sld hx hb hX hbl hbA S.2 h1 dL_law_2271 ?_
      refine lv_aload_n hx hb dL_law_2272 rfl (lv_at hl 1 rfl) ?_
      refine lv_iload hx hb dL_law_2273 (lv_at hl 5 rfl) ?_
      refine lv_iconst (v := (2 : Int32)) hx hb dL_law_2275 (by decide) ?_
      refine lv_iadd hx hb dL_law_2276 ?_
      refine va_sld hx hb hX hbl hbA S.2 h2 dL_law_2277 ?_
      refine x_callVI C S KX12 ok_178 (ok_X12_schedule (L := L) hmod hSh ok_178) ⟨cd_X12_schedule, ni_RX12, ml_RL_295, in_X12_schedule, sl_X12_schedule⟩ ⟨by decide, by decide⟩ rfl ⟨by decide, by decide⟩ hl.1 rfl (Nat.le_of_ble_eq_true rfl) ⟨by show _ ≤ 601024; omega, by show _ ≤ 7293034; omega⟩ dL_law_2278 (fun H locs S => ?_)
      refine lv_istore (lv' := [(6, .int b2), (5, .int 2), (0, .ref b), (1, .ref (gb g + 1)), (2, .ref (gb g + 178)), (3, .ref (gb g + 194)), (4, .int x4)]) hx hb dL_law_2281 hl (by decide) rfl (fun ls hl => ?_)
      refine lv_aload_n hx hb dL_law_2283 rfl (lv_at hl 4 rfl) ?_
      refine x_callVI C S KX12 ok_178 (ok_X12_thrown (L := L) (thr_eq N R σ2 178) hSh ok_178) ⟨cd_X12_thrown, ni_RX12, ml_RL_178, in_X12_thrown, sl_X12_thrown⟩ ⟨by decide, by decide⟩ rfl ⟨by decide, by decide⟩ hl.1 rfl (Nat.le_of_ble_eq_true rfl) ⟨by show _ ≤ 601024; omega, by show _ ≤ 7293034; omega⟩ dL_law_2284 (fun H locs S => ?_)
      refine lv_iload hx hb dL_law_2287 (lv_at hl 1 rfl) ?_
      refine lv_icmp_eq (tgt := 2294) hx hb dL_law_2289 (by decide) (fun c1 => ?_) (fun c1 => absurd ht c1)
      refine lv_iload hx hb dL_law_2294 (lv_at hl 1 rfl) ?_
      refine lv_if_ne (tgt := 2311) hx hb dL_law_2296 (by decide) (fun c2 => ?_) (fun c2 => absurd c2 (by decide))
      refine lv_goto (tgt := 3423) hx hb dL_law_2311 (by decide) ?_
      exact W.widen (k := cells + 4) (n := slots + 24) (by omega) (by omega) (kk σ2 R L H locs ls hI2 S (lv_sub hl [2, 3, 4, 5, 6] rfl))
    · refine lv_aload_n hx hb dL_law_2246 rfl (lv_at hl 1 rfl) ?_
      refine lv_aload_n hx hb dL_law_2247 rfl (lv_at hl 0 rfl) ?_
      refine lv_iload hx hb dL_law_2248 (lv_at hl 4 rfl) ?_
      refine lv_iconst (v := (1 : Int32)) hx hb dL_law_2250 (by decide) ?_
      refine lv_iadd hx hb dL_law_2251 ?_
      refine va_sld hx hb hX hbl hbA S.2 h1 dL_law_2252 ?_
      refine lv_aload_n hx hb dL_law_2253 rfl (lv_at hl 0 rfl) ?_
      refine lv_iload hx hb dL_law_2254 (lv_at hl 4 rfl) ?_
      refine lv_iconst (v := (2 : Int32)) hx hb dL_law_2256 (by decide) ?_
      refine lv_iadd hx hb dL_law_2257 ?_
      refine va_sld hx hb hX hbl hbA S.2 h2 dL_law_2258 ?_
      refine lv_aload_n hx hb dL_law_2259 rfl (lv_at hl 3 rfl) ?_
      refine v_callW C S (h_schedule_x2 (L := L) hm hSh ok_1 ok_194) ⟨cd_L_schedule, ni_RL, ml_RL_293, st_L_schedule⟩ ⟨by decide, by decide⟩ rfl ⟨by decide, by decide⟩ hl.1 rfl (Nat.le_of_ble_eq_true rfl) ⟨by show _ ≤ 601024; omega, by show _ ≤ 7293034; omega⟩ dL_law_2260 (fun w σ' H locs hp S => ?_)
      obtain ⟨rfl, rfl⟩ := hp
      have S : S2 g s σ1 R L H locs := S
      refine lv_istore (lv' := [(5, .int 3), (0, .ref b), (1, .ref (gb g + 1)), (2, .ref (gb g + 178)), (3, .ref (gb g + 194)), (4, .int x4)]) hx hb dL_law_2263 hl (by decide) rfl (fun ls hl => ?_)
      refine lv_aload_n hx hb dL_law_2265 rfl (lv_at hl 3 rfl) ?_
      refine lv_aload_n hx hb dL_law_2266 rfl (lv_at hl 1 rfl) ?_
      refine lv_iload hx hb dL_law_2267 (lv_at hl 5 rfl) ?_
      refine lv_iconst (v := (1 : Int32)) hx hb dL_law_2269 (by decide) ?_
      refine lv_iadd hx hb dL_law_2270 ?_
      refine va_sld hx hb hX hbl hbA S.2 h1 dL_law_2271 ?_
      refine lv_aload_n hx hb dL_law_2272 rfl (lv_at hl 1 rfl) ?_
      refine lv_iload hx hb dL_law_2273 (lv_at hl 5 rfl) ?_
      refine lv_iconst (v := (2 : Int32)) hx hb dL_law_2275 (by decide) ?_
      refine lv_iadd hx hb dL_law_2276 ?_
      refine va_sld hx hb hX hbl hbA S.2 h2 dL_law_2277 ?_
      refine x_callVI C S KX12 ok_178 (ok_X12_schedule (L := L) hmod hSh ok_178) ⟨cd_X12_schedule, ni_RX12, ml_RL_295, in_X12_schedule, sl_X12_schedule⟩ ⟨by decide, by decide⟩ rfl ⟨by decide, by decide⟩ hl.1 rfl (Nat.le_of_ble_eq_true rfl) ⟨by show _ ≤ 601024; omega, by show _ ≤ 7293034; omega⟩ dL_law_2278 (fun H locs S => ?_)
      refine lv_istore (lv' := [(6, .int b2), (5, .int 3), (0, .ref b), (1, .ref (gb g + 1)), (2, .ref (gb g + 178)), (3, .ref (gb g + 194)), (4, .int x4)]) hx hb dL_law_2281 hl (by decide) rfl (fun ls hl => ?_)
      refine lv_aload_n hx hb dL_law_2283 rfl (lv_at hl 4 rfl) ?_
      refine x_callVI C S KX12 ok_178 (ok_X12_thrown (L := L) (thr_eq N R σ2 178) hSh ok_178) ⟨cd_X12_thrown, ni_RX12, ml_RL_178, in_X12_thrown, sl_X12_thrown⟩ ⟨by decide, by decide⟩ rfl ⟨by decide, by decide⟩ hl.1 rfl (Nat.le_of_ble_eq_true rfl) ⟨by show _ ≤ 601024; omega, by show _ ≤ 7293034; omega⟩ dL_law_2284 (fun H locs S => ?_)
      refine lv_iload hx hb dL_law_2287 (lv_at hl 1 rfl) ?_
      refine lv_icmp_eq (tgt := 2294) hx hb dL_law_2289 (by decide) (fun c1 => ?_) (fun c1 => absurd ht c1)
      refine lv_iload hx hb dL_law_2294 (lv_at hl 1 rfl) ?_
      refine lv_if_ne (tgt := 2311) hx hb dL_law_2296 (by decide) (fun c2 => ?_) (fun c2 => absurd c2 (by decide))
      refine lv_goto (tgt := 3423) hx hb dL_law_2311 (by decide) ?_
      exact W.widen (k := cells + 4) (n := slots + 24) (by omega) (by omega) (kk σ2 R L H locs ls hI2 S (lv_sub hl [2, 3, 4, 5, 6] rfl))
set_option maxHeartbeats 4000000 in
set_option maxRecDepth 100000 in
theorem lc_38 {l : Launch} {g : GL} {p : Program} {e : Jvm.Env} {s : State} {m : MethodId} {below : List Frame} {meth : Method} {c : Code} {b Lx : Nat} {xs : Nat → Int32} {N : Nat} {Inv : SI → (Nat → Nat → Nat) → Prop} {σ : SI} {R : Nat → Nat → Nat} {L : Nat → Nat → Int64} {x4 : Int32} {cells slots : Nat} (C : Cx l g p s m meth c cL_law 7 RL) (hX : va_X b Lx xs s s.heap) (hbl : b < s.heap.size) (hbA : ¬ gA g b) (hI : Inv σ R) (hIS : InvOk Inv) (hAg : Ag_38 N Inv) (h1 : vp_in (x4 + 1) Lx) (hcs : cells + 4 ≤ 601024 ∧ slots + 24 ≤ 7293034) (kk : ∀ (σ' : SI) (R' : Nat → Nat → Nat) (L' : Nat → Nat → Int64) (H : Heap) (locs : List Loc) (ls : Array Slot), Inv σ' R' → S2 g s σ' R' L' H locs → lv_has ls 7 [(0, .ref b), (1, .ref (gb g + 1)), (2, .ref (gb g + 178)), (3, .ref (gb g + 194)), (4, .int x4)] → W p l e room_1 s m #[Value.ref b] below meth c H locs (cells + 4) (slots + 24) (lw_Z below #[Value.ref b] s) (F0 m 3423 ls [])) : ∀ (H : Heap) (locs : List Loc) (ls : Array Slot), S2 g s σ R L H locs → lv_has ls 7 [(0, .ref b), (1, .ref (gb g + 1)), (2, .ref (gb g + 178)), (3, .ref (gb g + 194)), (4, .int x4)] → W p l e room_1 s m #[Value.ref b] below meth c H locs (cells) (slots) (lw_Z below #[Value.ref b] s) (F0 m 2314 ls []) := by
  intro H locs ls S hl
  obtain ⟨hc1, hc2⟩ := hcs
  have hx := C.1
  have hb := C.2.1
  have hSh := hIS σ R hI
  obtain ⟨res, σ1, b2, σ2, hm, hmod, hI2, hret, hthr⟩ := hAg σ R (xs (x4 + 1).toNatClampNeg) hI
  cases res with
  | inl v =>
    obtain ⟨ht, rfl⟩ := hret v rfl
    refine lv_aload_n hx hb dL_law_2314 rfl (lv_at hl 1 rfl) ?_
    refine lv_aload_n hx hb dL_law_2315 rfl (lv_at hl 0 rfl) ?_
    refine lv_iload hx hb dL_law_2316 (lv_at hl 4 rfl) ?_
    refine lv_iconst (v := (1 : Int32)) hx hb dL_law_2318 (by decide) ?_
    refine lv_iadd hx hb dL_law_2319 ?_
    refine va_sld hx hb hX hbl hbA S.2 h1 dL_law_2320 ?_
    refine lv_aload_n hx hb dL_law_2321 rfl (lv_at hl 3 rfl) ?_
    refine v_callW C S (h_cancel_ret (L := L) hm hSh ok_1 ok_194) ⟨cd_L_cancel, ni_RL, ml_RL_296, st_L_cancel⟩ ⟨by decide, by decide⟩ rfl ⟨by decide, by decide⟩ hl.1 rfl (Nat.le_of_ble_eq_true rfl) ⟨by show _ ≤ 601024; omega, by show _ ≤ 7293034; omega⟩ dL_law_2322 (fun w σ' H locs hp S => ?_)
    obtain ⟨rfl, rfl⟩ := hp
    have S : S2 g s σ1 R (fun a j => if a = 194 ∧ j = 0 then v.toInt64 else L a j) H locs := S
    obtain ⟨L1, hL1, hLv⟩ : ∃ L1 : Nat → Nat → Int64, (fun a j => if a = 194 ∧ j = 0 then v.toInt64 else L a j) = L1 ∧ L1 194 0 = v.toInt64 := ⟨_, rfl, if_pos ⟨rfl, rfl⟩⟩
    rw [hL1] at S
    refine lv_istore (lv' := [(5, .int 0), (0, .ref b), (1, .ref (gb g + 1)), (2, .ref (gb g + 178)), (3, .ref (gb g + 194)), (4, .int x4)]) hx hb dL_law_2325 hl (by decide) rfl (fun ls hl => ?_)
    refine lv_aload_n hx hb dL_law_2327 rfl (lv_at hl 3 rfl) ?_
    refine lv_aload_n hx hb dL_law_2328 rfl (lv_at hl 1 rfl) ?_
    refine lv_iload hx hb dL_law_2329 (lv_at hl 5 rfl) ?_
    refine lv_iconst (v := (1 : Int32)) hx hb dL_law_2331 (by decide) ?_
    refine lv_iadd hx hb dL_law_2332 ?_
    refine va_sld hx hb hX hbl hbA S.2 h1 dL_law_2333 ?_
    refine x_callVI C S KX12 ok_178 (ok_X12_cancel (L := L1) hmod hSh ok_178) ⟨cd_X12_cancel, ni_RX12, ml_RL_298, in_X12_cancel, sl_X12_cancel⟩ ⟨by decide, by decide⟩ rfl ⟨by decide, by decide⟩ hl.1 rfl (Nat.le_of_ble_eq_true rfl) ⟨by show _ ≤ 601024; omega, by show _ ≤ 7293034; omega⟩ dL_law_2334 (fun H locs S => ?_)
    refine lv_istore (lv' := [(6, .int v), (5, .int 0), (0, .ref b), (1, .ref (gb g + 1)), (2, .ref (gb g + 178)), (3, .ref (gb g + 194)), (4, .int x4)]) hx hb dL_law_2337 hl (by decide) rfl (fun ls hl => ?_)
    refine lv_aload_n hx hb dL_law_2339 rfl (lv_at hl 4 rfl) ?_
    refine x_callVI C S KX12 ok_178 (ok_X12_thrown (L := L1) (thr_eq N R σ2 178) hSh ok_178) ⟨cd_X12_thrown, ni_RX12, ml_RL_178, in_X12_thrown, sl_X12_thrown⟩ ⟨by decide, by decide⟩ rfl ⟨by decide, by decide⟩ hl.1 rfl (Nat.le_of_ble_eq_true rfl) ⟨by show _ ≤ 601024; omega, by show _ ≤ 7293034; omega⟩ dL_law_2340 (fun H locs S => ?_)
    refine lv_iload hx hb dL_law_2343 (lv_at hl 1 rfl) ?_
    refine lv_icmp_eq (tgt := 2350) hx hb dL_law_2345 (by decide) (fun c1 => ?_) (fun c1 => absurd ht c1)
    refine lv_iload hx hb dL_law_2350 (lv_at hl 1 rfl) ?_
    refine lv_if_ne (tgt := 2367) hx hb dL_law_2352 (by decide) (fun c2 => absurd rfl c2) (fun c2 => ?_)
    refine lv_aload_n hx hb dL_law_2355 rfl (lv_at hl 5 rfl) ?_
    refine lv_iconst (v := (0 : Int32)) hx hb dL_law_2356 (by decide) ?_
    refine x_lald C S ok_194 dL_law_2357 ?_
    refine lv_iload hx hb dL_law_2358 (lv_at hl 0 rfl) ?_
    refine lv_i2l hx hb dL_law_2360 rfl ?_
    refine W.lcmp hx hb dL_law_2361 ?_
    refine lv_if_eq (tgt := 2367) hx hb dL_law_2362 (by decide) (fun c4 => ?_) (fun c4 => absurd (by show lg_cmp (L1 194 0) _ = 0; rw [hLv]; exact lgc_self _) c4)
    refine lv_goto (tgt := 3423) hx hb dL_law_2367 (by decide) ?_
    exact W.widen (k := cells + 4) (n := slots + 24) (by omega) (by omega) (kk σ2 R L1 H locs ls hI2 S (lv_sub hl [2, 3, 4, 5, 6] rfl))
  | inr q =>
    rcases hthr q rfl with ⟨rfl, ht⟩ | ⟨rfl, ht⟩
    · refine lv_aload_n hx hb dL_law_2314 rfl (lv_at hl 1 rfl) ?_
      refine lv_aload_n hx hb dL_law_2315 rfl (lv_at hl 0 rfl) ?_
      refine lv_iload hx hb dL_law_2316 (lv_at hl 4 rfl) ?_
      refine lv_iconst (v := (1 : Int32)) hx hb dL_law_2318 (by decide) ?_
      refine lv_iadd hx hb dL_law_2319 ?_
      refine va_sld hx hb hX hbl hbA S.2 h1 dL_law_2320 ?_
      refine lv_aload_n hx hb dL_law_2321 rfl (lv_at hl 3 rfl) ?_
      refine v_callW C S (h_cancel_x0 (L := L) hm hSh ok_1 ok_194) ⟨cd_L_cancel, ni_RL, ml_RL_296, st_L_cancel⟩ ⟨by decide, by decide⟩ rfl ⟨by decide, by decide⟩ hl.1 rfl (Nat.le_of_ble_eq_true rfl) ⟨by show _ ≤ 601024; omega, by show _ ≤ 7293034; omega⟩ dL_law_2322 (fun w σ' H locs hp S => ?_)
      obtain ⟨rfl, rfl⟩ := hp
      have S : S2 g s σ1 R L H locs := S
      refine lv_istore (lv' := [(5, .int 1), (0, .ref b), (1, .ref (gb g + 1)), (2, .ref (gb g + 178)), (3, .ref (gb g + 194)), (4, .int x4)]) hx hb dL_law_2325 hl (by decide) rfl (fun ls hl => ?_)
      refine lv_aload_n hx hb dL_law_2327 rfl (lv_at hl 3 rfl) ?_
      refine lv_aload_n hx hb dL_law_2328 rfl (lv_at hl 1 rfl) ?_
      refine lv_iload hx hb dL_law_2329 (lv_at hl 5 rfl) ?_
      refine lv_iconst (v := (1 : Int32)) hx hb dL_law_2331 (by decide) ?_
      refine lv_iadd hx hb dL_law_2332 ?_
      refine va_sld hx hb hX hbl hbA S.2 h1 dL_law_2333 ?_
      refine x_callVI C S KX12 ok_178 (ok_X12_cancel (L := L) hmod hSh ok_178) ⟨cd_X12_cancel, ni_RX12, ml_RL_298, in_X12_cancel, sl_X12_cancel⟩ ⟨by decide, by decide⟩ rfl ⟨by decide, by decide⟩ hl.1 rfl (Nat.le_of_ble_eq_true rfl) ⟨by show _ ≤ 601024; omega, by show _ ≤ 7293034; omega⟩ dL_law_2334 (fun H locs S => ?_)
      refine lv_istore (lv' := [(6, .int b2), (5, .int 1), (0, .ref b), (1, .ref (gb g + 1)), (2, .ref (gb g + 178)), (3, .ref (gb g + 194)), (4, .int x4)]) hx hb dL_law_2337 hl (by decide) rfl (fun ls hl => ?_)
      refine lv_aload_n hx hb dL_law_2339 rfl (lv_at hl 4 rfl) ?_
      refine x_callVI C S KX12 ok_178 (ok_X12_thrown (L := L) (thr_eq N R σ2 178) hSh ok_178) ⟨cd_X12_thrown, ni_RX12, ml_RL_178, in_X12_thrown, sl_X12_thrown⟩ ⟨by decide, by decide⟩ rfl ⟨by decide, by decide⟩ hl.1 rfl (Nat.le_of_ble_eq_true rfl) ⟨by show _ ≤ 601024; omega, by show _ ≤ 7293034; omega⟩ dL_law_2340 (fun H locs S => ?_)
      refine lv_iload hx hb dL_law_2343 (lv_at hl 1 rfl) ?_
      refine lv_icmp_eq (tgt := 2350) hx hb dL_law_2345 (by decide) (fun c1 => ?_) (fun c1 => absurd ht c1)
      refine lv_iload hx hb dL_law_2350 (lv_at hl 1 rfl) ?_
      refine lv_if_ne (tgt := 2367) hx hb dL_law_2352 (by decide) (fun c2 => ?_) (fun c2 => absurd c2 (by decide))
      refine lv_goto (tgt := 3423) hx hb dL_law_2367 (by decide) ?_
      exact W.widen (k := cells + 4) (n := slots + 24) (by omega) (by omega) (kk σ2 R L H locs ls hI2 S (lv_sub hl [2, 3, 4, 5, 6] rfl))
    · refine lv_aload_n hx hb dL_law_2314 rfl (lv_at hl 1 rfl) ?_
      refine lv_aload_n hx hb dL_law_2315 rfl (lv_at hl 0 rfl) ?_
      refine lv_iload hx hb dL_law_2316 (lv_at hl 4 rfl) ?_
      refine lv_iconst (v := (1 : Int32)) hx hb dL_law_2318 (by decide) ?_
      refine lv_iadd hx hb dL_law_2319 ?_
      refine va_sld hx hb hX hbl hbA S.2 h1 dL_law_2320 ?_
      refine lv_aload_n hx hb dL_law_2321 rfl (lv_at hl 3 rfl) ?_
      refine v_callW C S (h_cancel_x2 (L := L) hm hSh ok_1 ok_194) ⟨cd_L_cancel, ni_RL, ml_RL_296, st_L_cancel⟩ ⟨by decide, by decide⟩ rfl ⟨by decide, by decide⟩ hl.1 rfl (Nat.le_of_ble_eq_true rfl) ⟨by show _ ≤ 601024; omega, by show _ ≤ 7293034; omega⟩ dL_law_2322 (fun w σ' H locs hp S => ?_)
      obtain ⟨rfl, rfl⟩ := hp
      have S : S2 g s σ1 R L H locs := S
      refine lv_istore (lv' := [(5, .int 2), (0, .ref b), (1, .ref (gb g + 1)), (2, .ref (gb g + 178)), (3, .ref (gb g + 194)), (4, .int x4)]) hx hb dL_law_2325 hl (by decide) rfl (fun ls hl => ?_)
      refine lv_aload_n hx hb dL_law_2327 rfl (lv_at hl 3 rfl) ?_
      refine lv_aload_n hx hb dL_law_2328 rfl (lv_at hl 1 rfl) ?_
      refine lv_iload hx hb dL_law_2329 (lv_at hl 5 rfl) ?_
      refine lv_iconst (v := (1 : Int32)) hx hb dL_law_2331 (by decide) ?_
      refine lv_iadd hx hb dL_law_2332 ?_
      refine va_sld hx hb hX hbl hbA S.2 h1 dL_law_2333 ?_
      refine x_callVI C S KX12 ok_178 (ok_X12_cancel (L := L) hmod hSh ok_178) ⟨cd_X12_cancel, ni_RX12, ml_RL_298, in_X12_cancel, sl_X12_cancel⟩ ⟨by decide, by decide⟩ rfl ⟨by decide, by decide⟩ hl.1 rfl (Nat.le_of_ble_eq_true rfl) ⟨by show _ ≤ 601024; omega, by show _ ≤ 7293034; omega⟩ dL_law_2334 (fun H locs S => ?_)
      refine lv_istore (lv' := [(6, .int b2), (5, .int 2), (0, .ref b), (1, .ref (gb g + 1)), (2, .ref (gb g + 178)), (3, .ref (gb g + 194)), (4, .int x4)]) hx hb dL_law_2337 hl (by decide) rfl (fun ls hl => ?_)
      refine lv_aload_n hx hb dL_law_2339 rfl (lv_at hl 4 rfl) ?_
      refine x_callVI C S KX12 ok_178 (ok_X12_thrown (L := L) (thr_eq N R σ2 178) hSh ok_178) ⟨cd_X12_thrown, ni_RX12, ml_RL_178, in_X12_thrown, sl_X12_thrown⟩ ⟨by decide, by decide⟩ rfl ⟨by decide, by decide⟩ hl.1 rfl (Nat.le_of_ble_eq_true rfl) ⟨by show _ ≤ 601024; omega, by show _ ≤ 7293034; omega⟩ dL_law_2340 (fun H locs S => ?_)
      refine lv_iload hx hb dL_law_2343 (lv_at hl 1 rfl) ?_
      refine lv_icmp_eq (tgt := 2350) hx hb dL_law_2345 (by decide) (fun c1 => ?_) (fun c1 => absurd ht c1)
      refine lv_iload hx hb dL_law_2350 (lv_at hl 1 rfl) ?_
      refine lv_if_ne (tgt := 2367) hx hb dL_law_2352 (by decide) (fun c2 => ?_) (fun c2 => absurd c2 (by decide))
      refine lv_goto (tgt := 3423) hx hb dL_law_2367 (by decide) ?_
      exact W.widen (k := cells + 4) (n := slots + 24) (by omega) (by omega) (kk σ2 R L H locs ls hI2 S (lv_sub hl [2, 3, 4, 5, 6] rfl))
set_option maxHeartbeats 4000000 in
set_option maxRecDepth 100000 in
theorem lc_39 {l : Launch} {g : GL} {p : Program} {e : Jvm.Env} {s : State} {m : MethodId} {below : List Frame} {meth : Method} {c : Code} {b Lx : Nat} {xs : Nat → Int32} {N : Nat} {Inv : SI → (Nat → Nat → Nat) → Prop} {σ : SI} {R : Nat → Nat → Nat} {L : Nat → Nat → Int64} {x4 : Int32} {cells slots : Nat} (C : Cx l g p s m meth c cL_law 7 RL) (hX : va_X b Lx xs s s.heap) (hbl : b < s.heap.size) (hbA : ¬ gA g b) (hI : Inv σ R) (hIS : InvOk Inv) (hAg : Ag_39 N Inv) (h1 : vp_in (x4 + 1) Lx) (hcs : cells + 4 ≤ 601024 ∧ slots + 24 ≤ 7293034) (kk : ∀ (σ' : SI) (R' : Nat → Nat → Nat) (L' : Nat → Nat → Int64) (H : Heap) (locs : List Loc) (ls : Array Slot), Inv σ' R' → S2 g s σ' R' L' H locs → lv_has ls 7 [(0, .ref b), (1, .ref (gb g + 1)), (2, .ref (gb g + 178)), (3, .ref (gb g + 194)), (4, .int x4)] → W p l e room_1 s m #[Value.ref b] below meth c H locs (cells + 4) (slots + 24) (lw_Z below #[Value.ref b] s) (F0 m 3423 ls [])) : ∀ (H : Heap) (locs : List Loc) (ls : Array Slot), S2 g s σ R L H locs → lv_has ls 7 [(0, .ref b), (1, .ref (gb g + 1)), (2, .ref (gb g + 178)), (3, .ref (gb g + 194)), (4, .int x4)] → W p l e room_1 s m #[Value.ref b] below meth c H locs (cells) (slots) (lw_Z below #[Value.ref b] s) (F0 m 2370 ls []) := by
  intro H locs ls S hl
  obtain ⟨hc1, hc2⟩ := hcs
  have hx := C.1
  have hb := C.2.1
  have hSh := hIS σ R hI
  obtain ⟨res, σ1, b2, σ2, hm, hmod, hI2, hret, hthr⟩ := hAg σ R (xs (x4 + 1).toNatClampNeg) hI
  cases res with
  | inl v =>
    obtain ⟨ht, rfl⟩ := hret v rfl
    refine lv_aload_n hx hb dL_law_2370 rfl (lv_at hl 1 rfl) ?_
    refine lv_aload_n hx hb dL_law_2371 rfl (lv_at hl 0 rfl) ?_
    refine lv_iload hx hb dL_law_2372 (lv_at hl 4 rfl) ?_
    refine lv_iconst (v := (1 : Int32)) hx hb dL_law_2374 (by decide) ?_
    refine lv_iadd hx hb dL_law_2375 ?_
    refine va_sld hx hb hX hbl hbA S.2 h1 dL_law_2376 ?_
    refine lv_aload_n hx hb dL_law_2377 rfl (lv_at hl 3 rfl) ?_
    refine v_callW C S (h_fire_ret (L := L) hm hSh ok_1 ok_194) ⟨cd_L_fire, ni_RL, ml_RL_299, st_L_fire⟩ ⟨by decide, by decide⟩ rfl ⟨by decide, by decide⟩ hl.1 rfl (Nat.le_of_ble_eq_true rfl) ⟨by show _ ≤ 601024; omega, by show _ ≤ 7293034; omega⟩ dL_law_2378 (fun w σ' H locs hp S => ?_)
    obtain ⟨rfl, rfl⟩ := hp
    have S : S2 g s σ1 R (fun a j => if a = 194 ∧ j = 0 then v.toInt64 else L a j) H locs := S
    obtain ⟨L1, hL1, hLv⟩ : ∃ L1 : Nat → Nat → Int64, (fun a j => if a = 194 ∧ j = 0 then v.toInt64 else L a j) = L1 ∧ L1 194 0 = v.toInt64 := ⟨_, rfl, if_pos ⟨rfl, rfl⟩⟩
    rw [hL1] at S
    refine lv_istore (lv' := [(5, .int 0), (0, .ref b), (1, .ref (gb g + 1)), (2, .ref (gb g + 178)), (3, .ref (gb g + 194)), (4, .int x4)]) hx hb dL_law_2381 hl (by decide) rfl (fun ls hl => ?_)
    refine lv_aload_n hx hb dL_law_2383 rfl (lv_at hl 3 rfl) ?_
    refine lv_aload_n hx hb dL_law_2384 rfl (lv_at hl 1 rfl) ?_
    refine lv_iload hx hb dL_law_2385 (lv_at hl 5 rfl) ?_
    refine lv_iconst (v := (1 : Int32)) hx hb dL_law_2387 (by decide) ?_
    refine lv_iadd hx hb dL_law_2388 ?_
    refine va_sld hx hb hX hbl hbA S.2 h1 dL_law_2389 ?_
    refine x_callVI C S KX12 ok_178 (ok_X12_fire (L := L1) hmod hSh ok_178) ⟨cd_X12_fire, ni_RX12, ml_RL_301, in_X12_fire, sl_X12_fire⟩ ⟨by decide, by decide⟩ rfl ⟨by decide, by decide⟩ hl.1 rfl (Nat.le_of_ble_eq_true rfl) ⟨by show _ ≤ 601024; omega, by show _ ≤ 7293034; omega⟩ dL_law_2390 (fun H locs S => ?_)
    refine lv_istore (lv' := [(6, .int v), (5, .int 0), (0, .ref b), (1, .ref (gb g + 1)), (2, .ref (gb g + 178)), (3, .ref (gb g + 194)), (4, .int x4)]) hx hb dL_law_2393 hl (by decide) rfl (fun ls hl => ?_)
    refine lv_aload_n hx hb dL_law_2395 rfl (lv_at hl 4 rfl) ?_
    refine x_callVI C S KX12 ok_178 (ok_X12_thrown (L := L1) (thr_eq N R σ2 178) hSh ok_178) ⟨cd_X12_thrown, ni_RX12, ml_RL_178, in_X12_thrown, sl_X12_thrown⟩ ⟨by decide, by decide⟩ rfl ⟨by decide, by decide⟩ hl.1 rfl (Nat.le_of_ble_eq_true rfl) ⟨by show _ ≤ 601024; omega, by show _ ≤ 7293034; omega⟩ dL_law_2396 (fun H locs S => ?_)
    refine lv_iload hx hb dL_law_2399 (lv_at hl 1 rfl) ?_
    refine lv_icmp_eq (tgt := 2406) hx hb dL_law_2401 (by decide) (fun c1 => ?_) (fun c1 => absurd ht c1)
    refine lv_iload hx hb dL_law_2406 (lv_at hl 1 rfl) ?_
    refine lv_if_ne (tgt := 2423) hx hb dL_law_2408 (by decide) (fun c2 => absurd rfl c2) (fun c2 => ?_)
    refine lv_aload_n hx hb dL_law_2411 rfl (lv_at hl 5 rfl) ?_
    refine lv_iconst (v := (0 : Int32)) hx hb dL_law_2412 (by decide) ?_
    refine x_lald C S ok_194 dL_law_2413 ?_
    refine lv_iload hx hb dL_law_2414 (lv_at hl 0 rfl) ?_
    refine lv_i2l hx hb dL_law_2416 rfl ?_
    refine W.lcmp hx hb dL_law_2417 ?_
    refine lv_if_eq (tgt := 2423) hx hb dL_law_2418 (by decide) (fun c4 => ?_) (fun c4 => absurd (by show lg_cmp (L1 194 0) _ = 0; rw [hLv]; exact lgc_self _) c4)
    refine lv_goto (tgt := 3423) hx hb dL_law_2423 (by decide) ?_
    exact W.widen (k := cells + 4) (n := slots + 24) (by omega) (by omega) (kk σ2 R L1 H locs ls hI2 S (lv_sub hl [2, 3, 4, 5, 6] rfl))
  | inr q =>
    rcases hthr q rfl with ⟨rfl, ht⟩ | ⟨rfl, ht⟩
    · refine lv_aload_n hx hb dL_law_2370 rfl (lv_at hl 1 rfl) ?_
      refine lv_aload_n hx hb dL_law_2371 rfl (lv_at hl 0 rfl) ?_
      refine lv_iload hx hb dL_law_2372 (lv_at hl 4 rfl) ?_
      refine lv_iconst (v := (1 : Int32)) hx hb dL_law_2374 (by decide) ?_
      refine lv_iadd hx hb dL_law_2375 ?_
      refine va_sld hx hb hX hbl hbA S.2 h1 dL_law_2376 ?_
      refine lv_aload_n hx hb dL_law_2377 rfl (lv_at hl 3 rfl) ?_
      refine v_callW C S (h_fire_x0 (L := L) hm hSh ok_1 ok_194) ⟨cd_L_fire, ni_RL, ml_RL_299, st_L_fire⟩ ⟨by decide, by decide⟩ rfl ⟨by decide, by decide⟩ hl.1 rfl (Nat.le_of_ble_eq_true rfl) ⟨by show _ ≤ 601024; omega, by show _ ≤ 7293034; omega⟩ dL_law_2378 (fun w σ' H locs hp S => ?_)
      obtain ⟨rfl, rfl⟩ := hp
      have S : S2 g s σ1 R L H locs := S
      refine lv_istore (lv' := [(5, .int 1), (0, .ref b), (1, .ref (gb g + 1)), (2, .ref (gb g + 178)), (3, .ref (gb g + 194)), (4, .int x4)]) hx hb dL_law_2381 hl (by decide) rfl (fun ls hl => ?_)
      refine lv_aload_n hx hb dL_law_2383 rfl (lv_at hl 3 rfl) ?_
      refine lv_aload_n hx hb dL_law_2384 rfl (lv_at hl 1 rfl) ?_
      refine lv_iload hx hb dL_law_2385 (lv_at hl 5 rfl) ?_
      refine lv_iconst (v := (1 : Int32)) hx hb dL_law_2387 (by decide) ?_
      refine lv_iadd hx hb dL_law_2388 ?_
      refine va_sld hx hb hX hbl hbA S.2 h1 dL_law_2389 ?_
      refine x_callVI C S KX12 ok_178 (ok_X12_fire (L := L) hmod hSh ok_178) ⟨cd_X12_fire, ni_RX12, ml_RL_301, in_X12_fire, sl_X12_fire⟩ ⟨by decide, by decide⟩ rfl ⟨by decide, by decide⟩ hl.1 rfl (Nat.le_of_ble_eq_true rfl) ⟨by show _ ≤ 601024; omega, by show _ ≤ 7293034; omega⟩ dL_law_2390 (fun H locs S => ?_)
      refine lv_istore (lv' := [(6, .int b2), (5, .int 1), (0, .ref b), (1, .ref (gb g + 1)), (2, .ref (gb g + 178)), (3, .ref (gb g + 194)), (4, .int x4)]) hx hb dL_law_2393 hl (by decide) rfl (fun ls hl => ?_)
      refine lv_aload_n hx hb dL_law_2395 rfl (lv_at hl 4 rfl) ?_
      refine x_callVI C S KX12 ok_178 (ok_X12_thrown (L := L) (thr_eq N R σ2 178) hSh ok_178) ⟨cd_X12_thrown, ni_RX12, ml_RL_178, in_X12_thrown, sl_X12_thrown⟩ ⟨by decide, by decide⟩ rfl ⟨by decide, by decide⟩ hl.1 rfl (Nat.le_of_ble_eq_true rfl) ⟨by show _ ≤ 601024; omega, by show _ ≤ 7293034; omega⟩ dL_law_2396 (fun H locs S => ?_)
      refine lv_iload hx hb dL_law_2399 (lv_at hl 1 rfl) ?_
      refine lv_icmp_eq (tgt := 2406) hx hb dL_law_2401 (by decide) (fun c1 => ?_) (fun c1 => absurd ht c1)
      refine lv_iload hx hb dL_law_2406 (lv_at hl 1 rfl) ?_
      refine lv_if_ne (tgt := 2423) hx hb dL_law_2408 (by decide) (fun c2 => ?_) (fun c2 => absurd c2 (by decide))
      refine lv_goto (tgt := 3423) hx hb dL_law_2423 (by decide) ?_
      exact W.widen (k := cells + 4) (n := slots + 24) (by omega) (by omega) (kk σ2 R L H locs ls hI2 S (lv_sub hl [2, 3, 4, 5, 6] rfl))
    · refine lv_aload_n hx hb dL_law_2370 rfl (lv_at hl 1 rfl) ?_
      refine lv_aload_n hx hb dL_law_2371 rfl (lv_at hl 0 rfl) ?_
      refine lv_iload hx hb dL_law_2372 (lv_at hl 4 rfl) ?_
      refine lv_iconst (v := (1 : Int32)) hx hb dL_law_2374 (by decide) ?_
      refine lv_iadd hx hb dL_law_2375 ?_
      refine va_sld hx hb hX hbl hbA S.2 h1 dL_law_2376 ?_
      refine lv_aload_n hx hb dL_law_2377 rfl (lv_at hl 3 rfl) ?_
      refine v_callW C S (h_fire_x2 (L := L) hm hSh ok_1 ok_194) ⟨cd_L_fire, ni_RL, ml_RL_299, st_L_fire⟩ ⟨by decide, by decide⟩ rfl ⟨by decide, by decide⟩ hl.1 rfl (Nat.le_of_ble_eq_true rfl) ⟨by show _ ≤ 601024; omega, by show _ ≤ 7293034; omega⟩ dL_law_2378 (fun w σ' H locs hp S => ?_)
      obtain ⟨rfl, rfl⟩ := hp
      have S : S2 g s σ1 R L H locs := S
      refine lv_istore (lv' := [(5, .int 2), (0, .ref b), (1, .ref (gb g + 1)), (2, .ref (gb g + 178)), (3, .ref (gb g + 194)), (4, .int x4)]) hx hb dL_law_2381 hl (by decide) rfl (fun ls hl => ?_)
      refine lv_aload_n hx hb dL_law_2383 rfl (lv_at hl 3 rfl) ?_
      refine lv_aload_n hx hb dL_law_2384 rfl (lv_at hl 1 rfl) ?_
      refine lv_iload hx hb dL_law_2385 (lv_at hl 5 rfl) ?_
      refine lv_iconst (v := (1 : Int32)) hx hb dL_law_2387 (by decide) ?_
      refine lv_iadd hx hb dL_law_2388 ?_
      refine va_sld hx hb hX hbl hbA S.2 h1 dL_law_2389 ?_
      refine x_callVI C S KX12 ok_178 (ok_X12_fire (L := L) hmod hSh ok_178) ⟨cd_X12_fire, ni_RX12, ml_RL_301, in_X12_fire, sl_X12_fire⟩ ⟨by decide, by decide⟩ rfl ⟨by decide, by decide⟩ hl.1 rfl (Nat.le_of_ble_eq_true rfl) ⟨by show _ ≤ 601024; omega, by show _ ≤ 7293034; omega⟩ dL_law_2390 (fun H locs S => ?_)
      refine lv_istore (lv' := [(6, .int b2), (5, .int 2), (0, .ref b), (1, .ref (gb g + 1)), (2, .ref (gb g + 178)), (3, .ref (gb g + 194)), (4, .int x4)]) hx hb dL_law_2393 hl (by decide) rfl (fun ls hl => ?_)
      refine lv_aload_n hx hb dL_law_2395 rfl (lv_at hl 4 rfl) ?_
      refine x_callVI C S KX12 ok_178 (ok_X12_thrown (L := L) (thr_eq N R σ2 178) hSh ok_178) ⟨cd_X12_thrown, ni_RX12, ml_RL_178, in_X12_thrown, sl_X12_thrown⟩ ⟨by decide, by decide⟩ rfl ⟨by decide, by decide⟩ hl.1 rfl (Nat.le_of_ble_eq_true rfl) ⟨by show _ ≤ 601024; omega, by show _ ≤ 7293034; omega⟩ dL_law_2396 (fun H locs S => ?_)
      refine lv_iload hx hb dL_law_2399 (lv_at hl 1 rfl) ?_
      refine lv_icmp_eq (tgt := 2406) hx hb dL_law_2401 (by decide) (fun c1 => ?_) (fun c1 => absurd ht c1)
      refine lv_iload hx hb dL_law_2406 (lv_at hl 1 rfl) ?_
      refine lv_if_ne (tgt := 2423) hx hb dL_law_2408 (by decide) (fun c2 => ?_) (fun c2 => absurd c2 (by decide))
      refine lv_goto (tgt := 3423) hx hb dL_law_2423 (by decide) ?_
      exact W.widen (k := cells + 4) (n := slots + 24) (by omega) (by omega) (kk σ2 R L H locs ls hI2 S (lv_sub hl [2, 3, 4, 5, 6] rfl))
set_option maxHeartbeats 4000000 in
set_option maxRecDepth 100000 in
theorem lc_40 {l : Launch} {g : GL} {p : Program} {e : Jvm.Env} {s : State} {m : MethodId} {below : List Frame} {meth : Method} {c : Code} {b Lx : Nat} {xs : Nat → Int32} {N : Nat} {Inv : SI → (Nat → Nat → Nat) → Prop} {σ : SI} {R : Nat → Nat → Nat} {L : Nat → Nat → Int64} {x4 : Int32} {cells slots : Nat} (C : Cx l g p s m meth c cL_law 7 RL) (hX : va_X b Lx xs s s.heap) (hbl : b < s.heap.size) (hbA : ¬ gA g b) (hI : Inv σ R) (hIS : InvOk Inv) (hAg : Ag_40 N Inv) (h1 : vp_in (x4 + 1) Lx) (h2 : vp_in (x4 + 2) Lx) (hcs : cells + 4 ≤ 601024 ∧ slots + 24 ≤ 7293034) (kk : ∀ (σ' : SI) (R' : Nat → Nat → Nat) (L' : Nat → Nat → Int64) (H : Heap) (locs : List Loc) (ls : Array Slot), Inv σ' R' → S2 g s σ' R' L' H locs → lv_has ls 7 [(0, .ref b), (1, .ref (gb g + 1)), (2, .ref (gb g + 178)), (3, .ref (gb g + 194)), (4, .int x4)] → W p l e room_1 s m #[Value.ref b] below meth c H locs (cells + 4) (slots + 24) (lw_Z below #[Value.ref b] s) (F0 m 3423 ls [])) : ∀ (H : Heap) (locs : List Loc) (ls : Array Slot), S2 g s σ R L H locs → lv_has ls 7 [(0, .ref b), (1, .ref (gb g + 1)), (2, .ref (gb g + 178)), (3, .ref (gb g + 194)), (4, .int x4)] → W p l e room_1 s m #[Value.ref b] below meth c H locs (cells) (slots) (lw_Z below #[Value.ref b] s) (F0 m 2426 ls []) := by
  intro H locs ls S hl
  obtain ⟨hc1, hc2⟩ := hcs
  have hx := C.1
  have hb := C.2.1
  have hSh := hIS σ R hI
  obtain ⟨res, σ1, b2, σ2, hm, hmod, hI2, hret, hthr⟩ := hAg σ R (xs (x4 + 1).toNatClampNeg) (xs (x4 + 2).toNatClampNeg) hI
  cases res with
  | inl v =>
    obtain ⟨ht, rfl⟩ := hret v rfl
    refine lv_aload_n hx hb dL_law_2426 rfl (lv_at hl 1 rfl) ?_
    refine lv_aload_n hx hb dL_law_2427 rfl (lv_at hl 0 rfl) ?_
    refine lv_iload hx hb dL_law_2428 (lv_at hl 4 rfl) ?_
    refine lv_iconst (v := (1 : Int32)) hx hb dL_law_2430 (by decide) ?_
    refine lv_iadd hx hb dL_law_2431 ?_
    refine va_sld hx hb hX hbl hbA S.2 h1 dL_law_2432 ?_
    refine lv_aload_n hx hb dL_law_2433 rfl (lv_at hl 0 rfl) ?_
    refine lv_iload hx hb dL_law_2434 (lv_at hl 4 rfl) ?_
    refine lv_iconst (v := (2 : Int32)) hx hb dL_law_2436 (by decide) ?_
    refine lv_iadd hx hb dL_law_2437 ?_
    refine va_sld hx hb hX hbl hbA S.2 h2 dL_law_2438 ?_
    refine lv_aload_n hx hb dL_law_2439 rfl (lv_at hl 3 rfl) ?_
    refine v_callW C S (h_retime_ret (L := L) hm hSh ok_1 ok_194) ⟨cd_L_retime, ni_RL, ml_RL_302, st_L_retime⟩ ⟨by decide, by decide⟩ rfl ⟨by decide, by decide⟩ hl.1 rfl (Nat.le_of_ble_eq_true rfl) ⟨by show _ ≤ 601024; omega, by show _ ≤ 7293034; omega⟩ dL_law_2440 (fun w σ' H locs hp S => ?_)
    obtain ⟨rfl, rfl⟩ := hp
    have S : S2 g s σ1 R (fun a j => if a = 194 ∧ j = 0 then v.toInt64 else L a j) H locs := S
    obtain ⟨L1, hL1, hLv⟩ : ∃ L1 : Nat → Nat → Int64, (fun a j => if a = 194 ∧ j = 0 then v.toInt64 else L a j) = L1 ∧ L1 194 0 = v.toInt64 := ⟨_, rfl, if_pos ⟨rfl, rfl⟩⟩
    rw [hL1] at S
    refine lv_istore (lv' := [(5, .int 0), (0, .ref b), (1, .ref (gb g + 1)), (2, .ref (gb g + 178)), (3, .ref (gb g + 194)), (4, .int x4)]) hx hb dL_law_2443 hl (by decide) rfl (fun ls hl => ?_)
    refine lv_aload_n hx hb dL_law_2445 rfl (lv_at hl 3 rfl) ?_
    refine lv_aload_n hx hb dL_law_2446 rfl (lv_at hl 1 rfl) ?_
    refine lv_iload hx hb dL_law_2447 (lv_at hl 5 rfl) ?_
    refine lv_iconst (v := (1 : Int32)) hx hb dL_law_2449 (by decide) ?_
    refine lv_iadd hx hb dL_law_2450 ?_
    refine va_sld hx hb hX hbl hbA S.2 h1 dL_law_2451 ?_
    refine lv_aload_n hx hb dL_law_2452 rfl (lv_at hl 1 rfl) ?_
    refine lv_iload hx hb dL_law_2453 (lv_at hl 5 rfl) ?_
    refine lv_iconst (v := (2 : Int32)) hx hb dL_law_2455 (by decide) ?_
    refine lv_iadd hx hb dL_law_2456 ?_
    refine va_sld hx hb hX hbl hbA S.2 h2 dL_law_2457 ?_
    refine x_callVI C S KX12 ok_178 (ok_X12_retime (L := L1) hmod hSh ok_178) ⟨cd_X12_retime, ni_RX12, ml_RL_304, in_X12_retime, sl_X12_retime⟩ ⟨by decide, by decide⟩ rfl ⟨by decide, by decide⟩ hl.1 rfl (Nat.le_of_ble_eq_true rfl) ⟨by show _ ≤ 601024; omega, by show _ ≤ 7293034; omega⟩ dL_law_2458 (fun H locs S => ?_)
    refine lv_istore (lv' := [(6, .int v), (5, .int 0), (0, .ref b), (1, .ref (gb g + 1)), (2, .ref (gb g + 178)), (3, .ref (gb g + 194)), (4, .int x4)]) hx hb dL_law_2461 hl (by decide) rfl (fun ls hl => ?_)
    refine lv_aload_n hx hb dL_law_2463 rfl (lv_at hl 4 rfl) ?_
    refine x_callVI C S KX12 ok_178 (ok_X12_thrown (L := L1) (thr_eq N R σ2 178) hSh ok_178) ⟨cd_X12_thrown, ni_RX12, ml_RL_178, in_X12_thrown, sl_X12_thrown⟩ ⟨by decide, by decide⟩ rfl ⟨by decide, by decide⟩ hl.1 rfl (Nat.le_of_ble_eq_true rfl) ⟨by show _ ≤ 601024; omega, by show _ ≤ 7293034; omega⟩ dL_law_2464 (fun H locs S => ?_)
    refine lv_iload hx hb dL_law_2467 (lv_at hl 1 rfl) ?_
    refine lv_icmp_eq (tgt := 2474) hx hb dL_law_2469 (by decide) (fun c1 => ?_) (fun c1 => absurd ht c1)
    refine lv_iload hx hb dL_law_2474 (lv_at hl 1 rfl) ?_
    refine lv_if_ne (tgt := 2491) hx hb dL_law_2476 (by decide) (fun c2 => absurd rfl c2) (fun c2 => ?_)
    refine lv_aload_n hx hb dL_law_2479 rfl (lv_at hl 5 rfl) ?_
    refine lv_iconst (v := (0 : Int32)) hx hb dL_law_2480 (by decide) ?_
    refine x_lald C S ok_194 dL_law_2481 ?_
    refine lv_iload hx hb dL_law_2482 (lv_at hl 0 rfl) ?_
    refine lv_i2l hx hb dL_law_2484 rfl ?_
    refine W.lcmp hx hb dL_law_2485 ?_
    refine lv_if_eq (tgt := 2491) hx hb dL_law_2486 (by decide) (fun c4 => ?_) (fun c4 => absurd (by show lg_cmp (L1 194 0) _ = 0; rw [hLv]; exact lgc_self _) c4)
    refine lv_goto (tgt := 3423) hx hb dL_law_2491 (by decide) ?_
    exact W.widen (k := cells + 4) (n := slots + 24) (by omega) (by omega) (kk σ2 R L1 H locs ls hI2 S (lv_sub hl [2, 3, 4, 5, 6] rfl))
  | inr q =>
    rcases hthr q rfl with ⟨rfl, ht⟩ | ⟨rfl, ht⟩ | ⟨rfl, ht⟩
    · refine lv_aload_n hx hb dL_law_2426 rfl (lv_at hl 1 rfl) ?_
      refine lv_aload_n hx hb dL_law_2427 rfl (lv_at hl 0 rfl) ?_
      refine lv_iload hx hb dL_law_2428 (lv_at hl 4 rfl) ?_
      refine lv_iconst (v := (1 : Int32)) hx hb dL_law_2430 (by decide) ?_
      refine lv_iadd hx hb dL_law_2431 ?_
      refine va_sld hx hb hX hbl hbA S.2 h1 dL_law_2432 ?_
      refine lv_aload_n hx hb dL_law_2433 rfl (lv_at hl 0 rfl) ?_
      refine lv_iload hx hb dL_law_2434 (lv_at hl 4 rfl) ?_
      refine lv_iconst (v := (2 : Int32)) hx hb dL_law_2436 (by decide) ?_
      refine lv_iadd hx hb dL_law_2437 ?_
      refine va_sld hx hb hX hbl hbA S.2 h2 dL_law_2438 ?_
      refine lv_aload_n hx hb dL_law_2439 rfl (lv_at hl 3 rfl) ?_
      refine v_callW C S (h_retime_x0 (L := L) hm hSh ok_1 ok_194) ⟨cd_L_retime, ni_RL, ml_RL_302, st_L_retime⟩ ⟨by decide, by decide⟩ rfl ⟨by decide, by decide⟩ hl.1 rfl (Nat.le_of_ble_eq_true rfl) ⟨by show _ ≤ 601024; omega, by show _ ≤ 7293034; omega⟩ dL_law_2440 (fun w σ' H locs hp S => ?_)
      obtain ⟨rfl, rfl⟩ := hp
      have S : S2 g s σ1 R L H locs := S
      refine lv_istore (lv' := [(5, .int 1), (0, .ref b), (1, .ref (gb g + 1)), (2, .ref (gb g + 178)), (3, .ref (gb g + 194)), (4, .int x4)]) hx hb dL_law_2443 hl (by decide) rfl (fun ls hl => ?_)
      refine lv_aload_n hx hb dL_law_2445 rfl (lv_at hl 3 rfl) ?_
      refine lv_aload_n hx hb dL_law_2446 rfl (lv_at hl 1 rfl) ?_
      refine lv_iload hx hb dL_law_2447 (lv_at hl 5 rfl) ?_
      refine lv_iconst (v := (1 : Int32)) hx hb dL_law_2449 (by decide) ?_
      refine lv_iadd hx hb dL_law_2450 ?_
      refine va_sld hx hb hX hbl hbA S.2 h1 dL_law_2451 ?_
      refine lv_aload_n hx hb dL_law_2452 rfl (lv_at hl 1 rfl) ?_
      refine lv_iload hx hb dL_law_2453 (lv_at hl 5 rfl) ?_
      refine lv_iconst (v := (2 : Int32)) hx hb dL_law_2455 (by decide) ?_
      refine lv_iadd hx hb dL_law_2456 ?_
      refine va_sld hx hb hX hbl hbA S.2 h2 dL_law_2457 ?_
      refine x_callVI C S KX12 ok_178 (ok_X12_retime (L := L) hmod hSh ok_178) ⟨cd_X12_retime, ni_RX12, ml_RL_304, in_X12_retime, sl_X12_retime⟩ ⟨by decide, by decide⟩ rfl ⟨by decide, by decide⟩ hl.1 rfl (Nat.le_of_ble_eq_true rfl) ⟨by show _ ≤ 601024; omega, by show _ ≤ 7293034; omega⟩ dL_law_2458 (fun H locs S => ?_)
      refine lv_istore (lv' := [(6, .int b2), (5, .int 1), (0, .ref b), (1, .ref (gb g + 1)), (2, .ref (gb g + 178)), (3, .ref (gb g + 194)), (4, .int x4)]) hx hb dL_law_2461 hl (by decide) rfl (fun ls hl => ?_)
      refine lv_aload_n hx hb dL_law_2463 rfl (lv_at hl 4 rfl) ?_
      refine x_callVI C S KX12 ok_178 (ok_X12_thrown (L := L) (thr_eq N R σ2 178) hSh ok_178) ⟨cd_X12_thrown, ni_RX12, ml_RL_178, in_X12_thrown, sl_X12_thrown⟩ ⟨by decide, by decide⟩ rfl ⟨by decide, by decide⟩ hl.1 rfl (Nat.le_of_ble_eq_true rfl) ⟨by show _ ≤ 601024; omega, by show _ ≤ 7293034; omega⟩ dL_law_2464 (fun H locs S => ?_)
      refine lv_iload hx hb dL_law_2467 (lv_at hl 1 rfl) ?_
      refine lv_icmp_eq (tgt := 2474) hx hb dL_law_2469 (by decide) (fun c1 => ?_) (fun c1 => absurd ht c1)
      refine lv_iload hx hb dL_law_2474 (lv_at hl 1 rfl) ?_
      refine lv_if_ne (tgt := 2491) hx hb dL_law_2476 (by decide) (fun c2 => ?_) (fun c2 => absurd c2 (by decide))
      refine lv_goto (tgt := 3423) hx hb dL_law_2491 (by decide) ?_
      exact W.widen (k := cells + 4) (n := slots + 24) (by omega) (by omega) (kk σ2 R L H locs ls hI2 S (lv_sub hl [2, 3, 4, 5, 6] rfl))
    · refine lv_aload_n hx hb dL_law_2426 rfl (lv_at hl 1 rfl) ?_
      refine lv_aload_n hx hb dL_law_2427 rfl (lv_at hl 0 rfl) ?_
      refine lv_iload hx hb dL_law_2428 (lv_at hl 4 rfl) ?_
      refine lv_iconst (v := (1 : Int32)) hx hb dL_law_2430 (by decide) ?_
      refine lv_iadd hx hb dL_law_2431 ?_
      refine va_sld hx hb hX hbl hbA S.2 h1 dL_law_2432 ?_
      refine lv_aload_n hx hb dL_law_2433 rfl (lv_at hl 0 rfl) ?_
      refine lv_iload hx hb dL_law_2434 (lv_at hl 4 rfl) ?_
      refine lv_iconst (v := (2 : Int32)) hx hb dL_law_2436 (by decide) ?_
      refine lv_iadd hx hb dL_law_2437 ?_
      refine va_sld hx hb hX hbl hbA S.2 h2 dL_law_2438 ?_
      refine lv_aload_n hx hb dL_law_2439 rfl (lv_at hl 3 rfl) ?_
      refine v_callW C S (h_retime_x1 (L := L) hm hSh ok_1 ok_194) ⟨cd_L_retime, ni_RL, ml_RL_302, st_L_retime⟩ ⟨by decide, by decide⟩ rfl ⟨by decide, by decide⟩ hl.1 rfl (Nat.le_of_ble_eq_true rfl) ⟨by show _ ≤ 601024; omega, by show _ ≤ 7293034; omega⟩ dL_law_2440 (fun w σ' H locs hp S => ?_)
      obtain ⟨rfl, rfl⟩ := hp
      have S : S2 g s σ1 R L H locs := S
      refine lv_istore (lv' := [(5, .int 2), (0, .ref b), (1, .ref (gb g + 1)), (2, .ref (gb g + 178)), (3, .ref (gb g + 194)), (4, .int x4)]) hx hb dL_law_2443 hl (by decide) rfl (fun ls hl => ?_)
      refine lv_aload_n hx hb dL_law_2445 rfl (lv_at hl 3 rfl) ?_
      refine lv_aload_n hx hb dL_law_2446 rfl (lv_at hl 1 rfl) ?_
      refine lv_iload hx hb dL_law_2447 (lv_at hl 5 rfl) ?_
      refine lv_iconst (v := (1 : Int32)) hx hb dL_law_2449 (by decide) ?_
      refine lv_iadd hx hb dL_law_2450 ?_
      refine va_sld hx hb hX hbl hbA S.2 h1 dL_law_2451 ?_
      refine lv_aload_n hx hb dL_law_2452 rfl (lv_at hl 1 rfl) ?_
      refine lv_iload hx hb dL_law_2453 (lv_at hl 5 rfl) ?_
      refine lv_iconst (v := (2 : Int32)) hx hb dL_law_2455 (by decide) ?_
      refine lv_iadd hx hb dL_law_2456 ?_
      refine va_sld hx hb hX hbl hbA S.2 h2 dL_law_2457 ?_
      refine x_callVI C S KX12 ok_178 (ok_X12_retime (L := L) hmod hSh ok_178) ⟨cd_X12_retime, ni_RX12, ml_RL_304, in_X12_retime, sl_X12_retime⟩ ⟨by decide, by decide⟩ rfl ⟨by decide, by decide⟩ hl.1 rfl (Nat.le_of_ble_eq_true rfl) ⟨by show _ ≤ 601024; omega, by show _ ≤ 7293034; omega⟩ dL_law_2458 (fun H locs S => ?_)
      refine lv_istore (lv' := [(6, .int b2), (5, .int 2), (0, .ref b), (1, .ref (gb g + 1)), (2, .ref (gb g + 178)), (3, .ref (gb g + 194)), (4, .int x4)]) hx hb dL_law_2461 hl (by decide) rfl (fun ls hl => ?_)
      refine lv_aload_n hx hb dL_law_2463 rfl (lv_at hl 4 rfl) ?_
      refine x_callVI C S KX12 ok_178 (ok_X12_thrown (L := L) (thr_eq N R σ2 178) hSh ok_178) ⟨cd_X12_thrown, ni_RX12, ml_RL_178, in_X12_thrown, sl_X12_thrown⟩ ⟨by decide, by decide⟩ rfl ⟨by decide, by decide⟩ hl.1 rfl (Nat.le_of_ble_eq_true rfl) ⟨by show _ ≤ 601024; omega, by show _ ≤ 7293034; omega⟩ dL_law_2464 (fun H locs S => ?_)
      refine lv_iload hx hb dL_law_2467 (lv_at hl 1 rfl) ?_
      refine lv_icmp_eq (tgt := 2474) hx hb dL_law_2469 (by decide) (fun c1 => ?_) (fun c1 => absurd ht c1)
      refine lv_iload hx hb dL_law_2474 (lv_at hl 1 rfl) ?_
      refine lv_if_ne (tgt := 2491) hx hb dL_law_2476 (by decide) (fun c2 => ?_) (fun c2 => absurd c2 (by decide))
      refine lv_goto (tgt := 3423) hx hb dL_law_2491 (by decide) ?_
      exact W.widen (k := cells + 4) (n := slots + 24) (by omega) (by omega) (kk σ2 R L H locs ls hI2 S (lv_sub hl [2, 3, 4, 5, 6] rfl))
    · refine lv_aload_n hx hb dL_law_2426 rfl (lv_at hl 1 rfl) ?_
      refine lv_aload_n hx hb dL_law_2427 rfl (lv_at hl 0 rfl) ?_
      refine lv_iload hx hb dL_law_2428 (lv_at hl 4 rfl) ?_
      refine lv_iconst (v := (1 : Int32)) hx hb dL_law_2430 (by decide) ?_
      refine lv_iadd hx hb dL_law_2431 ?_
      refine va_sld hx hb hX hbl hbA S.2 h1 dL_law_2432 ?_
      refine lv_aload_n hx hb dL_law_2433 rfl (lv_at hl 0 rfl) ?_
      refine lv_iload hx hb dL_law_2434 (lv_at hl 4 rfl) ?_
      refine lv_iconst (v := (2 : Int32)) hx hb dL_law_2436 (by decide) ?_
      refine lv_iadd hx hb dL_law_2437 ?_
      refine va_sld hx hb hX hbl hbA S.2 h2 dL_law_2438 ?_
      refine lv_aload_n hx hb dL_law_2439 rfl (lv_at hl 3 rfl) ?_
      refine v_callW C S (h_retime_x2 (L := L) hm hSh ok_1 ok_194) ⟨cd_L_retime, ni_RL, ml_RL_302, st_L_retime⟩ ⟨by decide, by decide⟩ rfl ⟨by decide, by decide⟩ hl.1 rfl (Nat.le_of_ble_eq_true rfl) ⟨by show _ ≤ 601024; omega, by show _ ≤ 7293034; omega⟩ dL_law_2440 (fun w σ' H locs hp S => ?_)
      obtain ⟨rfl, rfl⟩ := hp
      have S : S2 g s σ1 R L H locs := S
      refine lv_istore (lv' := [(5, .int 3), (0, .ref b), (1, .ref (gb g + 1)), (2, .ref (gb g + 178)), (3, .ref (gb g + 194)), (4, .int x4)]) hx hb dL_law_2443 hl (by decide) rfl (fun ls hl => ?_)
      refine lv_aload_n hx hb dL_law_2445 rfl (lv_at hl 3 rfl) ?_
      refine lv_aload_n hx hb dL_law_2446 rfl (lv_at hl 1 rfl) ?_
      refine lv_iload hx hb dL_law_2447 (lv_at hl 5 rfl) ?_
      refine lv_iconst (v := (1 : Int32)) hx hb dL_law_2449 (by decide) ?_
      refine lv_iadd hx hb dL_law_2450 ?_
      refine va_sld hx hb hX hbl hbA S.2 h1 dL_law_2451 ?_
      refine lv_aload_n hx hb dL_law_2452 rfl (lv_at hl 1 rfl) ?_
      refine lv_iload hx hb dL_law_2453 (lv_at hl 5 rfl) ?_
      refine lv_iconst (v := (2 : Int32)) hx hb dL_law_2455 (by decide) ?_
      refine lv_iadd hx hb dL_law_2456 ?_
      refine va_sld hx hb hX hbl hbA S.2 h2 dL_law_2457 ?_
      refine x_callVI C S KX12 ok_178 (ok_X12_retime (L := L) hmod hSh ok_178) ⟨cd_X12_retime, ni_RX12, ml_RL_304, in_X12_retime, sl_X12_retime⟩ ⟨by decide, by decide⟩ rfl ⟨by decide, by decide⟩ hl.1 rfl (Nat.le_of_ble_eq_true rfl) ⟨by show _ ≤ 601024; omega, by show _ ≤ 7293034; omega⟩ dL_law_2458 (fun H locs S => ?_)
      refine lv_istore (lv' := [(6, .int b2), (5, .int 3), (0, .ref b), (1, .ref (gb g + 1)), (2, .ref (gb g + 178)), (3, .ref (gb g + 194)), (4, .int x4)]) hx hb dL_law_2461 hl (by decide) rfl (fun ls hl => ?_)
      refine lv_aload_n hx hb dL_law_2463 rfl (lv_at hl 4 rfl) ?_
      refine x_callVI C S KX12 ok_178 (ok_X12_thrown (L := L) (thr_eq N R σ2 178) hSh ok_178) ⟨cd_X12_thrown, ni_RX12, ml_RL_178, in_X12_thrown, sl_X12_thrown⟩ ⟨by decide, by decide⟩ rfl ⟨by decide, by decide⟩ hl.1 rfl (Nat.le_of_ble_eq_true rfl) ⟨by show _ ≤ 601024; omega, by show _ ≤ 7293034; omega⟩ dL_law_2464 (fun H locs S => ?_)
      refine lv_iload hx hb dL_law_2467 (lv_at hl 1 rfl) ?_
      refine lv_icmp_eq (tgt := 2474) hx hb dL_law_2469 (by decide) (fun c1 => ?_) (fun c1 => absurd ht c1)
      refine lv_iload hx hb dL_law_2474 (lv_at hl 1 rfl) ?_
      refine lv_if_ne (tgt := 2491) hx hb dL_law_2476 (by decide) (fun c2 => ?_) (fun c2 => absurd c2 (by decide))
      refine lv_goto (tgt := 3423) hx hb dL_law_2491 (by decide) ?_
      exact W.widen (k := cells + 4) (n := slots + 24) (by omega) (by omega) (kk σ2 R L H locs ls hI2 S (lv_sub hl [2, 3, 4, 5, 6] rfl))
set_option maxHeartbeats 4000000 in
set_option maxRecDepth 100000 in
theorem lc_41 {l : Launch} {g : GL} {p : Program} {e : Jvm.Env} {s : State} {m : MethodId} {below : List Frame} {meth : Method} {c : Code} {b Lx : Nat} {xs : Nat → Int32} {N : Nat} {Inv : SI → (Nat → Nat → Nat) → Prop} {σ : SI} {R : Nat → Nat → Nat} {L : Nat → Nat → Int64} {x4 : Int32} {cells slots : Nat} (C : Cx l g p s m meth c cL_law 7 RL) (hX : va_X b Lx xs s s.heap) (hbl : b < s.heap.size) (hbA : ¬ gA g b) (hI : Inv σ R) (hIS : InvOk Inv) (hAg : Ag_41 N Inv) (h1 : vp_in (x4 + 1) Lx) (hcs : cells + 4 ≤ 601024 ∧ slots + 24 ≤ 7293034) (kk : ∀ (σ' : SI) (R' : Nat → Nat → Nat) (L' : Nat → Nat → Int64) (H : Heap) (locs : List Loc) (ls : Array Slot), Inv σ' R' → S2 g s σ' R' L' H locs → lv_has ls 7 [(0, .ref b), (1, .ref (gb g + 1)), (2, .ref (gb g + 178)), (3, .ref (gb g + 194)), (4, .int x4)] → W p l e room_1 s m #[Value.ref b] below meth c H locs (cells + 4) (slots + 24) (lw_Z below #[Value.ref b] s) (F0 m 3423 ls [])) : ∀ (H : Heap) (locs : List Loc) (ls : Array Slot), S2 g s σ R L H locs → lv_has ls 7 [(0, .ref b), (1, .ref (gb g + 1)), (2, .ref (gb g + 178)), (3, .ref (gb g + 194)), (4, .int x4)] → W p l e room_1 s m #[Value.ref b] below meth c H locs (cells) (slots) (lw_Z below #[Value.ref b] s) (F0 m 2494 ls []) := by
  intro H locs ls S hl
  obtain ⟨hc1, hc2⟩ := hcs
  have hx := C.1
  have hb := C.2.1
  have hSh := hIS σ R hI
  obtain ⟨res, σ1, b2, σ2, hm, hmod, hI2, hret, hthr⟩ := hAg σ R (xs (x4 + 1).toNatClampNeg) hI
  cases res with
  | inl v =>
    obtain ⟨ht, rfl⟩ := hret v rfl
    refine lv_aload_n hx hb dL_law_2494 rfl (lv_at hl 1 rfl) ?_
    refine lv_aload_n hx hb dL_law_2495 rfl (lv_at hl 0 rfl) ?_
    refine lv_iload hx hb dL_law_2496 (lv_at hl 4 rfl) ?_
    refine lv_iconst (v := (1 : Int32)) hx hb dL_law_2498 (by decide) ?_
    refine lv_iadd hx hb dL_law_2499 ?_
    refine va_sld hx hb hX hbl hbA S.2 h1 dL_law_2500 ?_
    refine lv_aload_n hx hb dL_law_2501 rfl (lv_at hl 3 rfl) ?_
    refine v_callW C S (h_closedMinutes_ret (L := L) hm hSh ok_1 ok_194) ⟨cd_L_closedMinutes, ni_RL, ml_RL_305, st_L_closedMinutes⟩ ⟨by decide, by decide⟩ rfl ⟨by decide, by decide⟩ hl.1 rfl (Nat.le_of_ble_eq_true rfl) ⟨by show _ ≤ 601024; omega, by show _ ≤ 7293034; omega⟩ dL_law_2502 (fun w σ' H locs hp S => ?_)
    obtain ⟨rfl, rfl⟩ := hp
    have S : S2 g s σ1 R (fun a j => if a = 194 ∧ j = 0 then v.toInt64 else L a j) H locs := S
    obtain ⟨L1, hL1, hLv⟩ : ∃ L1 : Nat → Nat → Int64, (fun a j => if a = 194 ∧ j = 0 then v.toInt64 else L a j) = L1 ∧ L1 194 0 = v.toInt64 := ⟨_, rfl, if_pos ⟨rfl, rfl⟩⟩
    rw [hL1] at S
    refine lv_istore (lv' := [(5, .int 0), (0, .ref b), (1, .ref (gb g + 1)), (2, .ref (gb g + 178)), (3, .ref (gb g + 194)), (4, .int x4)]) hx hb dL_law_2505 hl (by decide) rfl (fun ls hl => ?_)
    refine lv_aload_n hx hb dL_law_2507 rfl (lv_at hl 3 rfl) ?_
    refine lv_aload_n hx hb dL_law_2508 rfl (lv_at hl 1 rfl) ?_
    refine lv_iload hx hb dL_law_2509 (lv_at hl 5 rfl) ?_
    refine lv_iconst (v := (1 : Int32)) hx hb dL_law_2511 (by decide) ?_
    refine lv_iadd hx hb dL_law_2512 ?_
    refine va_sld hx hb hX hbl hbA S.2 h1 dL_law_2513 ?_
    refine x_callVI C S KX12 ok_178 (ok_X12_closedMinutes (L := L1) hmod hSh ok_178) ⟨cd_X12_closedMinutes, ni_RX12, ml_RL_307, in_X12_closedMinutes, sl_X12_closedMinutes⟩ ⟨by decide, by decide⟩ rfl ⟨by decide, by decide⟩ hl.1 rfl (Nat.le_of_ble_eq_true rfl) ⟨by show _ ≤ 601024; omega, by show _ ≤ 7293034; omega⟩ dL_law_2514 (fun H locs S => ?_)
    refine lv_istore (lv' := [(6, .int v), (5, .int 0), (0, .ref b), (1, .ref (gb g + 1)), (2, .ref (gb g + 178)), (3, .ref (gb g + 194)), (4, .int x4)]) hx hb dL_law_2517 hl (by decide) rfl (fun ls hl => ?_)
    refine lv_aload_n hx hb dL_law_2519 rfl (lv_at hl 4 rfl) ?_
    refine x_callVI C S KX12 ok_178 (ok_X12_thrown (L := L1) (thr_eq N R σ2 178) hSh ok_178) ⟨cd_X12_thrown, ni_RX12, ml_RL_178, in_X12_thrown, sl_X12_thrown⟩ ⟨by decide, by decide⟩ rfl ⟨by decide, by decide⟩ hl.1 rfl (Nat.le_of_ble_eq_true rfl) ⟨by show _ ≤ 601024; omega, by show _ ≤ 7293034; omega⟩ dL_law_2520 (fun H locs S => ?_)
    refine lv_iload hx hb dL_law_2523 (lv_at hl 1 rfl) ?_
    refine lv_icmp_eq (tgt := 2530) hx hb dL_law_2525 (by decide) (fun c1 => ?_) (fun c1 => absurd ht c1)
    refine lv_iload hx hb dL_law_2530 (lv_at hl 1 rfl) ?_
    refine lv_if_ne (tgt := 2547) hx hb dL_law_2532 (by decide) (fun c2 => absurd rfl c2) (fun c2 => ?_)
    refine lv_aload_n hx hb dL_law_2535 rfl (lv_at hl 5 rfl) ?_
    refine lv_iconst (v := (0 : Int32)) hx hb dL_law_2536 (by decide) ?_
    refine x_lald C S ok_194 dL_law_2537 ?_
    refine lv_iload hx hb dL_law_2538 (lv_at hl 0 rfl) ?_
    refine lv_i2l hx hb dL_law_2540 rfl ?_
    refine W.lcmp hx hb dL_law_2541 ?_
    refine lv_if_eq (tgt := 2547) hx hb dL_law_2542 (by decide) (fun c4 => ?_) (fun c4 => absurd (by show lg_cmp (L1 194 0) _ = 0; rw [hLv]; exact lgc_self _) c4)
    refine lv_goto (tgt := 3423) hx hb dL_law_2547 (by decide) ?_
    exact W.widen (k := cells + 4) (n := slots + 24) (by omega) (by omega) (kk σ2 R L1 H locs ls hI2 S (lv_sub hl [2, 3, 4, 5, 6] rfl))
  | inr q =>
    obtain ⟨rfl, ht⟩ := hthr q rfl
    refine lv_aload_n hx hb dL_law_2494 rfl (lv_at hl 1 rfl) ?_
    refine lv_aload_n hx hb dL_law_2495 rfl (lv_at hl 0 rfl) ?_
    refine lv_iload hx hb dL_law_2496 (lv_at hl 4 rfl) ?_
    refine lv_iconst (v := (1 : Int32)) hx hb dL_law_2498 (by decide) ?_
    refine lv_iadd hx hb dL_law_2499 ?_
    refine va_sld hx hb hX hbl hbA S.2 h1 dL_law_2500 ?_
    refine lv_aload_n hx hb dL_law_2501 rfl (lv_at hl 3 rfl) ?_
    refine v_callW C S (h_closedMinutes_x0 (L := L) hm hSh ok_1 ok_194) ⟨cd_L_closedMinutes, ni_RL, ml_RL_305, st_L_closedMinutes⟩ ⟨by decide, by decide⟩ rfl ⟨by decide, by decide⟩ hl.1 rfl (Nat.le_of_ble_eq_true rfl) ⟨by show _ ≤ 601024; omega, by show _ ≤ 7293034; omega⟩ dL_law_2502 (fun w σ' H locs hp S => ?_)
    obtain ⟨rfl, rfl⟩ := hp
    have S : S2 g s σ1 R L H locs := S
    refine lv_istore (lv' := [(5, .int 1), (0, .ref b), (1, .ref (gb g + 1)), (2, .ref (gb g + 178)), (3, .ref (gb g + 194)), (4, .int x4)]) hx hb dL_law_2505 hl (by decide) rfl (fun ls hl => ?_)
    refine lv_aload_n hx hb dL_law_2507 rfl (lv_at hl 3 rfl) ?_
    refine lv_aload_n hx hb dL_law_2508 rfl (lv_at hl 1 rfl) ?_
    refine lv_iload hx hb dL_law_2509 (lv_at hl 5 rfl) ?_
    refine lv_iconst (v := (1 : Int32)) hx hb dL_law_2511 (by decide) ?_
    refine lv_iadd hx hb dL_law_2512 ?_
    refine va_sld hx hb hX hbl hbA S.2 h1 dL_law_2513 ?_
    refine x_callVI C S KX12 ok_178 (ok_X12_closedMinutes (L := L) hmod hSh ok_178) ⟨cd_X12_closedMinutes, ni_RX12, ml_RL_307, in_X12_closedMinutes, sl_X12_closedMinutes⟩ ⟨by decide, by decide⟩ rfl ⟨by decide, by decide⟩ hl.1 rfl (Nat.le_of_ble_eq_true rfl) ⟨by show _ ≤ 601024; omega, by show _ ≤ 7293034; omega⟩ dL_law_2514 (fun H locs S => ?_)
    refine lv_istore (lv' := [(6, .int b2), (5, .int 1), (0, .ref b), (1, .ref (gb g + 1)), (2, .ref (gb g + 178)), (3, .ref (gb g + 194)), (4, .int x4)]) hx hb dL_law_2517 hl (by decide) rfl (fun ls hl => ?_)
    refine lv_aload_n hx hb dL_law_2519 rfl (lv_at hl 4 rfl) ?_
    refine x_callVI C S KX12 ok_178 (ok_X12_thrown (L := L) (thr_eq N R σ2 178) hSh ok_178) ⟨cd_X12_thrown, ni_RX12, ml_RL_178, in_X12_thrown, sl_X12_thrown⟩ ⟨by decide, by decide⟩ rfl ⟨by decide, by decide⟩ hl.1 rfl (Nat.le_of_ble_eq_true rfl) ⟨by show _ ≤ 601024; omega, by show _ ≤ 7293034; omega⟩ dL_law_2520 (fun H locs S => ?_)
    refine lv_iload hx hb dL_law_2523 (lv_at hl 1 rfl) ?_
    refine lv_icmp_eq (tgt := 2530) hx hb dL_law_2525 (by decide) (fun c1 => ?_) (fun c1 => absurd ht c1)
    refine lv_iload hx hb dL_law_2530 (lv_at hl 1 rfl) ?_
    refine lv_if_ne (tgt := 2547) hx hb dL_law_2532 (by decide) (fun c2 => ?_) (fun c2 => absurd c2 (by decide))
    refine lv_goto (tgt := 3423) hx hb dL_law_2547 (by decide) ?_
    exact W.widen (k := cells + 4) (n := slots + 24) (by omega) (by omega) (kk σ2 R L H locs ls hI2 S (lv_sub hl [2, 3, 4, 5, 6] rfl))
set_option maxHeartbeats 4000000 in
set_option maxRecDepth 100000 in
theorem lc_42 {l : Launch} {g : GL} {p : Program} {e : Jvm.Env} {s : State} {m : MethodId} {below : List Frame} {meth : Method} {c : Code} {b Lx : Nat} {xs : Nat → Int32} {N : Nat} {Inv : SI → (Nat → Nat → Nat) → Prop} {σ : SI} {R : Nat → Nat → Nat} {L : Nat → Nat → Int64} {x4 : Int32} {cells slots : Nat} (C : Cx l g p s m meth c cL_law 7 RL) (hX : va_X b Lx xs s s.heap) (hbl : b < s.heap.size) (hbA : ¬ gA g b) (hI : Inv σ R) (hIS : InvOk Inv) (hAg : Ag_42 N Inv) (hcs : cells + 4 ≤ 601024 ∧ slots + 24 ≤ 7293034) (kk : ∀ (σ' : SI) (R' : Nat → Nat → Nat) (L' : Nat → Nat → Int64) (H : Heap) (locs : List Loc) (ls : Array Slot), Inv σ' R' → S2 g s σ' R' L' H locs → lv_has ls 7 [(0, .ref b), (1, .ref (gb g + 1)), (2, .ref (gb g + 178)), (3, .ref (gb g + 194)), (4, .int x4)] → W p l e room_1 s m #[Value.ref b] below meth c H locs (cells + 4) (slots + 24) (lw_Z below #[Value.ref b] s) (F0 m 3423 ls [])) : ∀ (H : Heap) (locs : List Loc) (ls : Array Slot), S2 g s σ R L H locs → lv_has ls 7 [(0, .ref b), (1, .ref (gb g + 1)), (2, .ref (gb g + 178)), (3, .ref (gb g + 194)), (4, .int x4)] → W p l e room_1 s m #[Value.ref b] below meth c H locs (cells) (slots) (lw_Z below #[Value.ref b] s) (F0 m 2550 ls []) := by
  intro H locs ls S hl
  obtain ⟨hc1, hc2⟩ := hcs
  have hx := C.1
  have hb := C.2.1
  have hSh := hIS σ R hI
  obtain ⟨b1, σ1, b2, σ2, hm, hmod, hI2, hres⟩ := hAg σ R hI
  refine lv_aload_n hx hb dL_law_2550 rfl (lv_at hl 1 rfl) ?_
  refine x_callVI C S KX11 ok_1 (ok_X11_totalClosed (L := L) hm hSh ok_1) ⟨cd_X11_totalClosed, ni_RX11, ml_RL_308, in_X11_totalClosed, sl_X11_totalClosed⟩ ⟨by decide, by decide⟩ rfl ⟨by decide, by decide⟩ hl.1 rfl (Nat.le_of_ble_eq_true rfl) ⟨by show _ ≤ 601024; omega, by show _ ≤ 7293034; omega⟩ dL_law_2551 (fun H locs S => ?_)
  refine lv_aload_n hx hb dL_law_2554 rfl (lv_at hl 2 rfl) ?_
  refine x_callVI C S KX12 ok_178 (ok_X12_totalClosed (L := L) hmod hSh ok_178) ⟨cd_X12_totalClosed, ni_RX12, ml_RL_311, in_X12_totalClosed, sl_X12_totalClosed⟩ ⟨by decide, by decide⟩ rfl ⟨by decide, by decide⟩ hl.1 rfl (Nat.le_of_ble_eq_true rfl) ⟨by show _ ≤ 601024; omega, by show _ ≤ 7293034; omega⟩ dL_law_2555 (fun H locs S => ?_)
  refine lv_icmp_eq (tgt := 3423) hx hb dL_law_2558 (by decide) (fun c1 => ?_) (fun c1 => absurd hres c1)
  exact W.widen (k := cells + 4) (n := slots + 24) (by omega) (by omega) (kk σ2 R L H locs ls hI2 S hl)
set_option maxHeartbeats 4000000 in
set_option maxRecDepth 100000 in
theorem lc_43 {l : Launch} {g : GL} {p : Program} {e : Jvm.Env} {s : State} {m : MethodId} {below : List Frame} {meth : Method} {c : Code} {b Lx : Nat} {xs : Nat → Int32} {N : Nat} {Inv : SI → (Nat → Nat → Nat) → Prop} {σ : SI} {R : Nat → Nat → Nat} {L : Nat → Nat → Int64} {x4 : Int32} {cells slots : Nat} (C : Cx l g p s m meth c cL_law 7 RL) (hX : va_X b Lx xs s s.heap) (hbl : b < s.heap.size) (hbA : ¬ gA g b) (hI : Inv σ R) (hIS : InvOk Inv) (hAg : Ag_43 N Inv) (h1 : vp_in (x4 + 1) Lx) (h2 : vp_in (x4 + 2) Lx) (hcs : cells + 4 ≤ 601024 ∧ slots + 24 ≤ 7293034) (kk : ∀ (σ' : SI) (R' : Nat → Nat → Nat) (L' : Nat → Nat → Int64) (H : Heap) (locs : List Loc) (ls : Array Slot), Inv σ' R' → S2 g s σ' R' L' H locs → lv_has ls 7 [(0, .ref b), (1, .ref (gb g + 1)), (2, .ref (gb g + 178)), (3, .ref (gb g + 194)), (4, .int x4)] → W p l e room_1 s m #[Value.ref b] below meth c H locs (cells + 4) (slots + 24) (lw_Z below #[Value.ref b] s) (F0 m 3423 ls [])) : ∀ (H : Heap) (locs : List Loc) (ls : Array Slot), S2 g s σ R L H locs → lv_has ls 7 [(0, .ref b), (1, .ref (gb g + 1)), (2, .ref (gb g + 178)), (3, .ref (gb g + 194)), (4, .int x4)] → W p l e room_1 s m #[Value.ref b] below meth c H locs (cells) (slots) (lw_Z below #[Value.ref b] s) (F0 m 2563 ls []) := by
  intro H locs ls S hl
  obtain ⟨hc1, hc2⟩ := hcs
  have hx := C.1
  have hb := C.2.1
  have hSh := hIS σ R hI
  obtain ⟨res, σ1, b2, σ2, hm, hmod, hI2, hret, hthr⟩ := hAg σ R (xs (x4 + 1).toNatClampNeg) (xs (x4 + 2).toNatClampNeg) hI
  cases res with
  | inl v =>
    obtain ⟨ht, rfl⟩ := hret v rfl
    refine lv_aload_n hx hb dL_law_2563 rfl (lv_at hl 1 rfl) ?_
    refine lv_aload_n hx hb dL_law_2564 rfl (lv_at hl 0 rfl) ?_
    refine lv_iload hx hb dL_law_2565 (lv_at hl 4 rfl) ?_
    refine lv_iconst (v := (1 : Int32)) hx hb dL_law_2567 (by decide) ?_
    refine lv_iadd hx hb dL_law_2568 ?_
    refine va_sld hx hb hX hbl hbA S.2 h1 dL_law_2569 ?_
    refine lv_aload_n hx hb dL_law_2570 rfl (lv_at hl 0 rfl) ?_
    refine lv_iload hx hb dL_law_2571 (lv_at hl 4 rfl) ?_
    refine lv_iconst (v := (2 : Int32)) hx hb dL_law_2573 (by decide) ?_
    refine lv_iadd hx hb dL_law_2574 ?_
    refine va_sld hx hb hX hbl hbA S.2 h2 dL_law_2575 ?_
    refine lv_aload_n hx hb dL_law_2576 rfl (lv_at hl 3 rfl) ?_
    refine v_callW C S (h_isClosed_ret (L := L) hm hSh ok_1 ok_194) ⟨cd_L_isClosed, ni_RL, ml_RL_312, st_L_isClosed⟩ ⟨by decide, by decide⟩ rfl ⟨by decide, by decide⟩ hl.1 rfl (Nat.le_of_ble_eq_true rfl) ⟨by show _ ≤ 601024; omega, by show _ ≤ 7293034; omega⟩ dL_law_2577 (fun w σ' H locs hp S => ?_)
    obtain ⟨rfl, rfl⟩ := hp
    have S : S2 g s σ1 R (fun a j => if a = 194 ∧ j = 0 then (if v = 0 then 0 else 1 : Int64) else L a j) H locs := S
    obtain ⟨L1, hL1, hLv⟩ : ∃ L1 : Nat → Nat → Int64, (fun a j => if a = 194 ∧ j = 0 then (if v = 0 then 0 else 1 : Int64) else L a j) = L1 ∧ L1 194 0 = (if v = 0 then 0 else 1 : Int64) := ⟨_, rfl, if_pos ⟨rfl, rfl⟩⟩
    rw [hL1] at S
    refine lv_istore (lv' := [(5, .int 0), (0, .ref b), (1, .ref (gb g + 1)), (2, .ref (gb g + 178)), (3, .ref (gb g + 194)), (4, .int x4)]) hx hb dL_law_2580 hl (by decide) rfl (fun ls hl => ?_)
    refine lv_aload_n hx hb dL_law_2582 rfl (lv_at hl 3 rfl) ?_
    refine lv_aload_n hx hb dL_law_2583 rfl (lv_at hl 1 rfl) ?_
    refine lv_iload hx hb dL_law_2584 (lv_at hl 5 rfl) ?_
    refine lv_iconst (v := (1 : Int32)) hx hb dL_law_2586 (by decide) ?_
    refine lv_iadd hx hb dL_law_2587 ?_
    refine va_sld hx hb hX hbl hbA S.2 h1 dL_law_2588 ?_
    refine lv_aload_n hx hb dL_law_2589 rfl (lv_at hl 1 rfl) ?_
    refine lv_iload hx hb dL_law_2590 (lv_at hl 5 rfl) ?_
    refine lv_iconst (v := (2 : Int32)) hx hb dL_law_2592 (by decide) ?_
    refine lv_iadd hx hb dL_law_2593 ?_
    refine va_sld hx hb hX hbl hbA S.2 h2 dL_law_2594 ?_
    refine x_callVI C S KX12 ok_178 (ok_X12_isClosed (L := L1) hmod hSh ok_178) ⟨cd_X12_isClosed, ni_RX12, ml_RL_314, in_X12_isClosed, sl_X12_isClosed⟩ ⟨by decide, by decide⟩ rfl ⟨by decide, by decide⟩ hl.1 rfl (Nat.le_of_ble_eq_true rfl) ⟨by show _ ≤ 601024; omega, by show _ ≤ 7293034; omega⟩ dL_law_2595 (fun H locs S => ?_)
    refine lv_istore (lv' := [(6, .int v), (5, .int 0), (0, .ref b), (1, .ref (gb g + 1)), (2, .ref (gb g + 178)), (3, .ref (gb g + 194)), (4, .int x4)]) hx hb dL_law_2598 hl (by decide) rfl (fun ls hl => ?_)
    refine lv_aload_n hx hb dL_law_2600 rfl (lv_at hl 4 rfl) ?_
    refine x_callVI C S KX12 ok_178 (ok_X12_thrown (L := L1) (thr_eq N R σ2 178) hSh ok_178) ⟨cd_X12_thrown, ni_RX12, ml_RL_178, in_X12_thrown, sl_X12_thrown⟩ ⟨by decide, by decide⟩ rfl ⟨by decide, by decide⟩ hl.1 rfl (Nat.le_of_ble_eq_true rfl) ⟨by show _ ≤ 601024; omega, by show _ ≤ 7293034; omega⟩ dL_law_2601 (fun H locs S => ?_)
    refine lv_iload hx hb dL_law_2604 (lv_at hl 1 rfl) ?_
    refine lv_icmp_eq (tgt := 2611) hx hb dL_law_2606 (by decide) (fun c1 => ?_) (fun c1 => absurd ht c1)
    refine lv_iload hx hb dL_law_2611 (lv_at hl 1 rfl) ?_
    refine lv_if_ne (tgt := 2635) hx hb dL_law_2613 (by decide) (fun c2 => absurd rfl c2) (fun c2 => ?_)
    refine lv_aload_n hx hb dL_law_2616 rfl (lv_at hl 5 rfl) ?_
    refine lv_iconst (v := (0 : Int32)) hx hb dL_law_2617 (by decide) ?_
    refine x_lald C S ok_194 dL_law_2618 ?_
    refine lv_iload hx hb dL_law_2619 (lv_at hl 0 rfl) ?_
    refine lv_if_eq (tgt := 2628) hx hb dL_law_2621 (by decide) (fun c3 => ?_) (fun c3 => ?_)
    · refine lv_lconst (v := (0 : Int64)) hx hb dL_law_2628 (by decide) ?_
      refine W.lcmp hx hb dL_law_2629 ?_
      refine lv_if_eq (tgt := 2635) hx hb dL_law_2630 (by decide) (fun c4 => ?_) (fun c4 => absurd (by show lg_cmp (L1 194 0) _ = 0; rw [hLv, if_pos c3]; exact lgc_self _) c4)
      refine lv_goto (tgt := 3423) hx hb dL_law_2635 (by decide) ?_
      exact W.widen (k := cells + 4) (n := slots + 24) (by omega) (by omega) (kk σ2 R L1 H locs ls hI2 S (lv_sub hl [2, 3, 4, 5, 6] rfl))
    · refine lv_lconst (v := (1 : Int64)) hx hb dL_law_2624 (by decide) ?_
      refine lv_goto (tgt := 2629) hx hb dL_law_2625 (by decide) ?_
      refine W.lcmp hx hb dL_law_2629 ?_
      refine lv_if_eq (tgt := 2635) hx hb dL_law_2630 (by decide) (fun c4 => ?_) (fun c4 => absurd (by show lg_cmp (L1 194 0) _ = 0; rw [hLv, if_neg c3]; exact lgc_self _) c4)
      refine lv_goto (tgt := 3423) hx hb dL_law_2635 (by decide) ?_
      exact W.widen (k := cells + 4) (n := slots + 24) (by omega) (by omega) (kk σ2 R L1 H locs ls hI2 S (lv_sub hl [2, 3, 4, 5, 6] rfl))
  | inr q =>
    obtain ⟨rfl, ht⟩ := hthr q rfl
    refine lv_aload_n hx hb dL_law_2563 rfl (lv_at hl 1 rfl) ?_
    refine lv_aload_n hx hb dL_law_2564 rfl (lv_at hl 0 rfl) ?_
    refine lv_iload hx hb dL_law_2565 (lv_at hl 4 rfl) ?_
    refine lv_iconst (v := (1 : Int32)) hx hb dL_law_2567 (by decide) ?_
    refine lv_iadd hx hb dL_law_2568 ?_
    refine va_sld hx hb hX hbl hbA S.2 h1 dL_law_2569 ?_
    refine lv_aload_n hx hb dL_law_2570 rfl (lv_at hl 0 rfl) ?_
    refine lv_iload hx hb dL_law_2571 (lv_at hl 4 rfl) ?_
    refine lv_iconst (v := (2 : Int32)) hx hb dL_law_2573 (by decide) ?_
    refine lv_iadd hx hb dL_law_2574 ?_
    refine va_sld hx hb hX hbl hbA S.2 h2 dL_law_2575 ?_
    refine lv_aload_n hx hb dL_law_2576 rfl (lv_at hl 3 rfl) ?_
    refine v_callW C S (h_isClosed_x0 (L := L) hm hSh ok_1 ok_194) ⟨cd_L_isClosed, ni_RL, ml_RL_312, st_L_isClosed⟩ ⟨by decide, by decide⟩ rfl ⟨by decide, by decide⟩ hl.1 rfl (Nat.le_of_ble_eq_true rfl) ⟨by show _ ≤ 601024; omega, by show _ ≤ 7293034; omega⟩ dL_law_2577 (fun w σ' H locs hp S => ?_)
    obtain ⟨rfl, rfl⟩ := hp
    have S : S2 g s σ1 R L H locs := S
    refine lv_istore (lv' := [(5, .int 1), (0, .ref b), (1, .ref (gb g + 1)), (2, .ref (gb g + 178)), (3, .ref (gb g + 194)), (4, .int x4)]) hx hb dL_law_2580 hl (by decide) rfl (fun ls hl => ?_)
    refine lv_aload_n hx hb dL_law_2582 rfl (lv_at hl 3 rfl) ?_
    refine lv_aload_n hx hb dL_law_2583 rfl (lv_at hl 1 rfl) ?_
    refine lv_iload hx hb dL_law_2584 (lv_at hl 5 rfl) ?_
    refine lv_iconst (v := (1 : Int32)) hx hb dL_law_2586 (by decide) ?_
    refine lv_iadd hx hb dL_law_2587 ?_
    refine va_sld hx hb hX hbl hbA S.2 h1 dL_law_2588 ?_
    refine lv_aload_n hx hb dL_law_2589 rfl (lv_at hl 1 rfl) ?_
    refine lv_iload hx hb dL_law_2590 (lv_at hl 5 rfl) ?_
    refine lv_iconst (v := (2 : Int32)) hx hb dL_law_2592 (by decide) ?_
    refine lv_iadd hx hb dL_law_2593 ?_
    refine va_sld hx hb hX hbl hbA S.2 h2 dL_law_2594 ?_
    refine x_callVI C S KX12 ok_178 (ok_X12_isClosed (L := L) hmod hSh ok_178) ⟨cd_X12_isClosed, ni_RX12, ml_RL_314, in_X12_isClosed, sl_X12_isClosed⟩ ⟨by decide, by decide⟩ rfl ⟨by decide, by decide⟩ hl.1 rfl (Nat.le_of_ble_eq_true rfl) ⟨by show _ ≤ 601024; omega, by show _ ≤ 7293034; omega⟩ dL_law_2595 (fun H locs S => ?_)
    refine lv_istore (lv' := [(6, .int b2), (5, .int 1), (0, .ref b), (1, .ref (gb g + 1)), (2, .ref (gb g + 178)), (3, .ref (gb g + 194)), (4, .int x4)]) hx hb dL_law_2598 hl (by decide) rfl (fun ls hl => ?_)
    refine lv_aload_n hx hb dL_law_2600 rfl (lv_at hl 4 rfl) ?_
    refine x_callVI C S KX12 ok_178 (ok_X12_thrown (L := L) (thr_eq N R σ2 178) hSh ok_178) ⟨cd_X12_thrown, ni_RX12, ml_RL_178, in_X12_thrown, sl_X12_thrown⟩ ⟨by decide, by decide⟩ rfl ⟨by decide, by decide⟩ hl.1 rfl (Nat.le_of_ble_eq_true rfl) ⟨by show _ ≤ 601024; omega, by show _ ≤ 7293034; omega⟩ dL_law_2601 (fun H locs S => ?_)
    refine lv_iload hx hb dL_law_2604 (lv_at hl 1 rfl) ?_
    refine lv_icmp_eq (tgt := 2611) hx hb dL_law_2606 (by decide) (fun c1 => ?_) (fun c1 => absurd ht c1)
    refine lv_iload hx hb dL_law_2611 (lv_at hl 1 rfl) ?_
    refine lv_if_ne (tgt := 2635) hx hb dL_law_2613 (by decide) (fun c2 => ?_) (fun c2 => absurd c2 (by decide))
    refine lv_goto (tgt := 3423) hx hb dL_law_2635 (by decide) ?_
    exact W.widen (k := cells + 4) (n := slots + 24) (by omega) (by omega) (kk σ2 R L H locs ls hI2 S (lv_sub hl [2, 3, 4, 5, 6] rfl))
set_option maxHeartbeats 4000000 in
set_option maxRecDepth 100000 in
theorem lc_44 {l : Launch} {g : GL} {p : Program} {e : Jvm.Env} {s : State} {m : MethodId} {below : List Frame} {meth : Method} {c : Code} {b Lx : Nat} {xs : Nat → Int32} {N : Nat} {Inv : SI → (Nat → Nat → Nat) → Prop} {σ : SI} {R : Nat → Nat → Nat} {L : Nat → Nat → Int64} {x4 : Int32} {cells slots : Nat} (C : Cx l g p s m meth c cL_law 7 RL) (hX : va_X b Lx xs s s.heap) (hbl : b < s.heap.size) (hbA : ¬ gA g b) (hI : Inv σ R) (hIS : InvOk Inv) (hAg : Ag_44 N Inv) (h1 : vp_in (x4 + 1) Lx) (hcs : cells + 4 ≤ 601024 ∧ slots + 24 ≤ 7293034) (kk : ∀ (σ' : SI) (R' : Nat → Nat → Nat) (L' : Nat → Nat → Int64) (H : Heap) (locs : List Loc) (ls : Array Slot), Inv σ' R' → S2 g s σ' R' L' H locs → lv_has ls 7 [(0, .ref b), (1, .ref (gb g + 1)), (2, .ref (gb g + 178)), (3, .ref (gb g + 194)), (4, .int x4)] → W p l e room_1 s m #[Value.ref b] below meth c H locs (cells + 4) (slots + 24) (lw_Z below #[Value.ref b] s) (F0 m 3423 ls [])) : ∀ (H : Heap) (locs : List Loc) (ls : Array Slot), S2 g s σ R L H locs → lv_has ls 7 [(0, .ref b), (1, .ref (gb g + 1)), (2, .ref (gb g + 178)), (3, .ref (gb g + 194)), (4, .int x4)] → W p l e room_1 s m #[Value.ref b] below meth c H locs (cells) (slots) (lw_Z below #[Value.ref b] s) (F0 m 2638 ls []) := by
  intro H locs ls S hl
  obtain ⟨hc1, hc2⟩ := hcs
  have hx := C.1
  have hb := C.2.1
  have hSh := hIS σ R hI
  obtain ⟨res, σ1, b2, σ2, hm, hmod, hI2, hret, hthr⟩ := hAg σ R (xs (x4 + 1).toNatClampNeg) hI
  cases res with
  | inl v =>
    obtain ⟨ht, rfl⟩ := hret v rfl
    refine lv_aload_n hx hb dL_law_2638 rfl (lv_at hl 1 rfl) ?_
    refine lv_aload_n hx hb dL_law_2639 rfl (lv_at hl 0 rfl) ?_
    refine lv_iload hx hb dL_law_2640 (lv_at hl 4 rfl) ?_
    refine lv_iconst (v := (1 : Int32)) hx hb dL_law_2642 (by decide) ?_
    refine lv_iadd hx hb dL_law_2643 ?_
    refine va_sld hx hb hX hbl hbA S.2 h1 dL_law_2644 ?_
    refine lv_aload_n hx hb dL_law_2645 rfl (lv_at hl 3 rfl) ?_
    refine v_callW C S (h_closures_ret (L := L) hm hSh ok_1 ok_194) ⟨cd_L_closures, ni_RL, ml_RL_315, st_L_closures⟩ ⟨by decide, by decide⟩ rfl ⟨by decide, by decide⟩ hl.1 rfl (Nat.le_of_ble_eq_true rfl) ⟨by show _ ≤ 601024; omega, by show _ ≤ 7293034; omega⟩ dL_law_2646 (fun w σ' H locs hp S => ?_)
    obtain ⟨rfl, rfl⟩ := hp
    have S : S2 g s σ1 R (fun a j => if a = 194 ∧ j = 0 then v.toInt64 else L a j) H locs := S
    obtain ⟨L1, hL1, hLv⟩ : ∃ L1 : Nat → Nat → Int64, (fun a j => if a = 194 ∧ j = 0 then v.toInt64 else L a j) = L1 ∧ L1 194 0 = v.toInt64 := ⟨_, rfl, if_pos ⟨rfl, rfl⟩⟩
    rw [hL1] at S
    refine lv_istore (lv' := [(5, .int 0), (0, .ref b), (1, .ref (gb g + 1)), (2, .ref (gb g + 178)), (3, .ref (gb g + 194)), (4, .int x4)]) hx hb dL_law_2649 hl (by decide) rfl (fun ls hl => ?_)
    refine lv_aload_n hx hb dL_law_2651 rfl (lv_at hl 3 rfl) ?_
    refine lv_aload_n hx hb dL_law_2652 rfl (lv_at hl 1 rfl) ?_
    refine lv_iload hx hb dL_law_2653 (lv_at hl 5 rfl) ?_
    refine lv_iconst (v := (1 : Int32)) hx hb dL_law_2655 (by decide) ?_
    refine lv_iadd hx hb dL_law_2656 ?_
    refine va_sld hx hb hX hbl hbA S.2 h1 dL_law_2657 ?_
    refine x_callVI C S KX12 ok_178 (ok_X12_closures (L := L1) hmod hSh ok_178) ⟨cd_X12_closures, ni_RX12, ml_RL_317, in_X12_closures, sl_X12_closures⟩ ⟨by decide, by decide⟩ rfl ⟨by decide, by decide⟩ hl.1 rfl (Nat.le_of_ble_eq_true rfl) ⟨by show _ ≤ 601024; omega, by show _ ≤ 7293034; omega⟩ dL_law_2658 (fun H locs S => ?_)
    refine lv_istore (lv' := [(6, .int v), (5, .int 0), (0, .ref b), (1, .ref (gb g + 1)), (2, .ref (gb g + 178)), (3, .ref (gb g + 194)), (4, .int x4)]) hx hb dL_law_2661 hl (by decide) rfl (fun ls hl => ?_)
    refine lv_aload_n hx hb dL_law_2663 rfl (lv_at hl 4 rfl) ?_
    refine x_callVI C S KX12 ok_178 (ok_X12_thrown (L := L1) (thr_eq N R σ2 178) hSh ok_178) ⟨cd_X12_thrown, ni_RX12, ml_RL_178, in_X12_thrown, sl_X12_thrown⟩ ⟨by decide, by decide⟩ rfl ⟨by decide, by decide⟩ hl.1 rfl (Nat.le_of_ble_eq_true rfl) ⟨by show _ ≤ 601024; omega, by show _ ≤ 7293034; omega⟩ dL_law_2664 (fun H locs S => ?_)
    refine lv_iload hx hb dL_law_2667 (lv_at hl 1 rfl) ?_
    refine lv_icmp_eq (tgt := 2674) hx hb dL_law_2669 (by decide) (fun c1 => ?_) (fun c1 => absurd ht c1)
    refine lv_iload hx hb dL_law_2674 (lv_at hl 1 rfl) ?_
    refine lv_if_ne (tgt := 2691) hx hb dL_law_2676 (by decide) (fun c2 => absurd rfl c2) (fun c2 => ?_)
    refine lv_aload_n hx hb dL_law_2679 rfl (lv_at hl 5 rfl) ?_
    refine lv_iconst (v := (0 : Int32)) hx hb dL_law_2680 (by decide) ?_
    refine x_lald C S ok_194 dL_law_2681 ?_
    refine lv_iload hx hb dL_law_2682 (lv_at hl 0 rfl) ?_
    refine lv_i2l hx hb dL_law_2684 rfl ?_
    refine W.lcmp hx hb dL_law_2685 ?_
    refine lv_if_eq (tgt := 2691) hx hb dL_law_2686 (by decide) (fun c4 => ?_) (fun c4 => absurd (by show lg_cmp (L1 194 0) _ = 0; rw [hLv]; exact lgc_self _) c4)
    refine lv_goto (tgt := 3423) hx hb dL_law_2691 (by decide) ?_
    exact W.widen (k := cells + 4) (n := slots + 24) (by omega) (by omega) (kk σ2 R L1 H locs ls hI2 S (lv_sub hl [2, 3, 4, 5, 6] rfl))
  | inr q =>
    obtain ⟨rfl, ht⟩ := hthr q rfl
    refine lv_aload_n hx hb dL_law_2638 rfl (lv_at hl 1 rfl) ?_
    refine lv_aload_n hx hb dL_law_2639 rfl (lv_at hl 0 rfl) ?_
    refine lv_iload hx hb dL_law_2640 (lv_at hl 4 rfl) ?_
    refine lv_iconst (v := (1 : Int32)) hx hb dL_law_2642 (by decide) ?_
    refine lv_iadd hx hb dL_law_2643 ?_
    refine va_sld hx hb hX hbl hbA S.2 h1 dL_law_2644 ?_
    refine lv_aload_n hx hb dL_law_2645 rfl (lv_at hl 3 rfl) ?_
    refine v_callW C S (h_closures_x0 (L := L) hm hSh ok_1 ok_194) ⟨cd_L_closures, ni_RL, ml_RL_315, st_L_closures⟩ ⟨by decide, by decide⟩ rfl ⟨by decide, by decide⟩ hl.1 rfl (Nat.le_of_ble_eq_true rfl) ⟨by show _ ≤ 601024; omega, by show _ ≤ 7293034; omega⟩ dL_law_2646 (fun w σ' H locs hp S => ?_)
    obtain ⟨rfl, rfl⟩ := hp
    have S : S2 g s σ1 R L H locs := S
    refine lv_istore (lv' := [(5, .int 1), (0, .ref b), (1, .ref (gb g + 1)), (2, .ref (gb g + 178)), (3, .ref (gb g + 194)), (4, .int x4)]) hx hb dL_law_2649 hl (by decide) rfl (fun ls hl => ?_)
    refine lv_aload_n hx hb dL_law_2651 rfl (lv_at hl 3 rfl) ?_
    refine lv_aload_n hx hb dL_law_2652 rfl (lv_at hl 1 rfl) ?_
    refine lv_iload hx hb dL_law_2653 (lv_at hl 5 rfl) ?_
    refine lv_iconst (v := (1 : Int32)) hx hb dL_law_2655 (by decide) ?_
    refine lv_iadd hx hb dL_law_2656 ?_
    refine va_sld hx hb hX hbl hbA S.2 h1 dL_law_2657 ?_
    refine x_callVI C S KX12 ok_178 (ok_X12_closures (L := L) hmod hSh ok_178) ⟨cd_X12_closures, ni_RX12, ml_RL_317, in_X12_closures, sl_X12_closures⟩ ⟨by decide, by decide⟩ rfl ⟨by decide, by decide⟩ hl.1 rfl (Nat.le_of_ble_eq_true rfl) ⟨by show _ ≤ 601024; omega, by show _ ≤ 7293034; omega⟩ dL_law_2658 (fun H locs S => ?_)
    refine lv_istore (lv' := [(6, .int b2), (5, .int 1), (0, .ref b), (1, .ref (gb g + 1)), (2, .ref (gb g + 178)), (3, .ref (gb g + 194)), (4, .int x4)]) hx hb dL_law_2661 hl (by decide) rfl (fun ls hl => ?_)
    refine lv_aload_n hx hb dL_law_2663 rfl (lv_at hl 4 rfl) ?_
    refine x_callVI C S KX12 ok_178 (ok_X12_thrown (L := L) (thr_eq N R σ2 178) hSh ok_178) ⟨cd_X12_thrown, ni_RX12, ml_RL_178, in_X12_thrown, sl_X12_thrown⟩ ⟨by decide, by decide⟩ rfl ⟨by decide, by decide⟩ hl.1 rfl (Nat.le_of_ble_eq_true rfl) ⟨by show _ ≤ 601024; omega, by show _ ≤ 7293034; omega⟩ dL_law_2664 (fun H locs S => ?_)
    refine lv_iload hx hb dL_law_2667 (lv_at hl 1 rfl) ?_
    refine lv_icmp_eq (tgt := 2674) hx hb dL_law_2669 (by decide) (fun c1 => ?_) (fun c1 => absurd ht c1)
    refine lv_iload hx hb dL_law_2674 (lv_at hl 1 rfl) ?_
    refine lv_if_ne (tgt := 2691) hx hb dL_law_2676 (by decide) (fun c2 => ?_) (fun c2 => absurd c2 (by decide))
    refine lv_goto (tgt := 3423) hx hb dL_law_2691 (by decide) ?_
    exact W.widen (k := cells + 4) (n := slots + 24) (by omega) (by omega) (kk σ2 R L H locs ls hI2 S (lv_sub hl [2, 3, 4, 5, 6] rfl))
set_option maxHeartbeats 4000000 in
set_option maxRecDepth 100000 in
theorem lc_45 {l : Launch} {g : GL} {p : Program} {e : Jvm.Env} {s : State} {m : MethodId} {below : List Frame} {meth : Method} {c : Code} {b Lx : Nat} {xs : Nat → Int32} {N : Nat} {Inv : SI → (Nat → Nat → Nat) → Prop} {σ : SI} {R : Nat → Nat → Nat} {L : Nat → Nat → Int64} {x4 : Int32} {cells slots : Nat} (C : Cx l g p s m meth c cL_law 7 RL) (hX : va_X b Lx xs s s.heap) (hbl : b < s.heap.size) (hbA : ¬ gA g b) (hI : Inv σ R) (hIS : InvOk Inv) (hAg : Ag_45 N Inv) (h1 : vp_in (x4 + 1) Lx) (h2 : vp_in (x4 + 2) Lx) (hcs : cells + 4 ≤ 601024 ∧ slots + 24 ≤ 7293034) (kk : ∀ (σ' : SI) (R' : Nat → Nat → Nat) (L' : Nat → Nat → Int64) (H : Heap) (locs : List Loc) (ls : Array Slot), Inv σ' R' → S2 g s σ' R' L' H locs → lv_has ls 7 [(0, .ref b), (1, .ref (gb g + 1)), (2, .ref (gb g + 178)), (3, .ref (gb g + 194)), (4, .int x4)] → W p l e room_1 s m #[Value.ref b] below meth c H locs (cells + 4) (slots + 24) (lw_Z below #[Value.ref b] s) (F0 m 3423 ls [])) : ∀ (H : Heap) (locs : List Loc) (ls : Array Slot), S2 g s σ R L H locs → lv_has ls 7 [(0, .ref b), (1, .ref (gb g + 1)), (2, .ref (gb g + 178)), (3, .ref (gb g + 194)), (4, .int x4)] → W p l e room_1 s m #[Value.ref b] below meth c H locs (cells) (slots) (lw_Z below #[Value.ref b] s) (F0 m 2694 ls []) := by
  intro H locs ls S hl
  obtain ⟨hc1, hc2⟩ := hcs
  have hx := C.1
  have hb := C.2.1
  have hSh := hIS σ R hI
  obtain ⟨res, σ1, b2, σ2, hm, hmod, hI2, hret, hthr⟩ := hAg σ R (xs (x4 + 1).toNatClampNeg) (xs (x4 + 2).toNatClampNeg) hI
  cases res with
  | inl v =>
    obtain ⟨ht, rfl⟩ := hret v rfl
    refine lv_aload_n hx hb dL_law_2694 rfl (lv_at hl 1 rfl) ?_
    refine lv_aload_n hx hb dL_law_2695 rfl (lv_at hl 0 rfl) ?_
    refine lv_iload hx hb dL_law_2696 (lv_at hl 4 rfl) ?_
    refine lv_iconst (v := (1 : Int32)) hx hb dL_law_2698 (by decide) ?_
    refine lv_iadd hx hb dL_law_2699 ?_
    refine va_sld hx hb hX hbl hbA S.2 h1 dL_law_2700 ?_
    refine lv_aload_n hx hb dL_law_2701 rfl (lv_at hl 0 rfl) ?_
    refine lv_iload hx hb dL_law_2702 (lv_at hl 4 rfl) ?_
    refine lv_iconst (v := (2 : Int32)) hx hb dL_law_2704 (by decide) ?_
    refine lv_iadd hx hb dL_law_2705 ?_
    refine va_sld hx hb hX hbl hbA S.2 h2 dL_law_2706 ?_
    refine lv_aload_n hx hb dL_law_2707 rfl (lv_at hl 3 rfl) ?_
    refine v_callW C S (h_closureStart_ret (L := L) hm hSh ok_1 ok_194) ⟨cd_L_closureStart, ni_RL, ml_RL_318, st_L_closureStart⟩ ⟨by decide, by decide⟩ rfl ⟨by decide, by decide⟩ hl.1 rfl (Nat.le_of_ble_eq_true rfl) ⟨by show _ ≤ 601024; omega, by show _ ≤ 7293034; omega⟩ dL_law_2708 (fun w σ' H locs hp S => ?_)
    obtain ⟨rfl, rfl⟩ := hp
    have S : S2 g s σ1 R (fun a j => if a = 194 ∧ j = 0 then v.toInt64 else L a j) H locs := S
    obtain ⟨L1, hL1, hLv⟩ : ∃ L1 : Nat → Nat → Int64, (fun a j => if a = 194 ∧ j = 0 then v.toInt64 else L a j) = L1 ∧ L1 194 0 = v.toInt64 := ⟨_, rfl, if_pos ⟨rfl, rfl⟩⟩
    rw [hL1] at S
    refine lv_istore (lv' := [(5, .int 0), (0, .ref b), (1, .ref (gb g + 1)), (2, .ref (gb g + 178)), (3, .ref (gb g + 194)), (4, .int x4)]) hx hb dL_law_2711 hl (by decide) rfl (fun ls hl => ?_)
    refine lv_aload_n hx hb dL_law_2713 rfl (lv_at hl 3 rfl) ?_
    refine lv_aload_n hx hb dL_law_2714 rfl (lv_at hl 1 rfl) ?_
    refine lv_iload hx hb dL_law_2715 (lv_at hl 5 rfl) ?_
    refine lv_iconst (v := (1 : Int32)) hx hb dL_law_2717 (by decide) ?_
    refine lv_iadd hx hb dL_law_2718 ?_
    refine va_sld hx hb hX hbl hbA S.2 h1 dL_law_2719 ?_
    refine lv_aload_n hx hb dL_law_2720 rfl (lv_at hl 1 rfl) ?_
    refine lv_iload hx hb dL_law_2721 (lv_at hl 5 rfl) ?_
    refine lv_iconst (v := (2 : Int32)) hx hb dL_law_2723 (by decide) ?_
    refine lv_iadd hx hb dL_law_2724 ?_
    refine va_sld hx hb hX hbl hbA S.2 h2 dL_law_2725 ?_
    refine x_callVI C S KX12 ok_178 (ok_X12_closureStart (L := L1) hmod hSh ok_178) ⟨cd_X12_closureStart, ni_RX12, ml_RL_320, in_X12_closureStart, sl_X12_closureStart⟩ ⟨by decide, by decide⟩ rfl ⟨by decide, by decide⟩ hl.1 rfl (Nat.le_of_ble_eq_true rfl) ⟨by show _ ≤ 601024; omega, by show _ ≤ 7293034; omega⟩ dL_law_2726 (fun H locs S => ?_)
    refine lv_istore (lv' := [(6, .int v), (5, .int 0), (0, .ref b), (1, .ref (gb g + 1)), (2, .ref (gb g + 178)), (3, .ref (gb g + 194)), (4, .int x4)]) hx hb dL_law_2729 hl (by decide) rfl (fun ls hl => ?_)
    refine lv_aload_n hx hb dL_law_2731 rfl (lv_at hl 4 rfl) ?_
    refine x_callVI C S KX12 ok_178 (ok_X12_thrown (L := L1) (thr_eq N R σ2 178) hSh ok_178) ⟨cd_X12_thrown, ni_RX12, ml_RL_178, in_X12_thrown, sl_X12_thrown⟩ ⟨by decide, by decide⟩ rfl ⟨by decide, by decide⟩ hl.1 rfl (Nat.le_of_ble_eq_true rfl) ⟨by show _ ≤ 601024; omega, by show _ ≤ 7293034; omega⟩ dL_law_2732 (fun H locs S => ?_)
    refine lv_iload hx hb dL_law_2735 (lv_at hl 1 rfl) ?_
    refine lv_icmp_eq (tgt := 2742) hx hb dL_law_2737 (by decide) (fun c1 => ?_) (fun c1 => absurd ht c1)
    refine lv_iload hx hb dL_law_2742 (lv_at hl 1 rfl) ?_
    refine lv_if_ne (tgt := 2759) hx hb dL_law_2744 (by decide) (fun c2 => absurd rfl c2) (fun c2 => ?_)
    refine lv_aload_n hx hb dL_law_2747 rfl (lv_at hl 5 rfl) ?_
    refine lv_iconst (v := (0 : Int32)) hx hb dL_law_2748 (by decide) ?_
    refine x_lald C S ok_194 dL_law_2749 ?_
    refine lv_iload hx hb dL_law_2750 (lv_at hl 0 rfl) ?_
    refine lv_i2l hx hb dL_law_2752 rfl ?_
    refine W.lcmp hx hb dL_law_2753 ?_
    refine lv_if_eq (tgt := 2759) hx hb dL_law_2754 (by decide) (fun c4 => ?_) (fun c4 => absurd (by show lg_cmp (L1 194 0) _ = 0; rw [hLv]; exact lgc_self _) c4)
    refine lv_goto (tgt := 3423) hx hb dL_law_2759 (by decide) ?_
    exact W.widen (k := cells + 4) (n := slots + 24) (by omega) (by omega) (kk σ2 R L1 H locs ls hI2 S (lv_sub hl [2, 3, 4, 5, 6] rfl))
  | inr q =>
    obtain ⟨rfl, ht⟩ := hthr q rfl
    refine lv_aload_n hx hb dL_law_2694 rfl (lv_at hl 1 rfl) ?_
    refine lv_aload_n hx hb dL_law_2695 rfl (lv_at hl 0 rfl) ?_
    refine lv_iload hx hb dL_law_2696 (lv_at hl 4 rfl) ?_
    refine lv_iconst (v := (1 : Int32)) hx hb dL_law_2698 (by decide) ?_
    refine lv_iadd hx hb dL_law_2699 ?_
    refine va_sld hx hb hX hbl hbA S.2 h1 dL_law_2700 ?_
    refine lv_aload_n hx hb dL_law_2701 rfl (lv_at hl 0 rfl) ?_
    refine lv_iload hx hb dL_law_2702 (lv_at hl 4 rfl) ?_
    refine lv_iconst (v := (2 : Int32)) hx hb dL_law_2704 (by decide) ?_
    refine lv_iadd hx hb dL_law_2705 ?_
    refine va_sld hx hb hX hbl hbA S.2 h2 dL_law_2706 ?_
    refine lv_aload_n hx hb dL_law_2707 rfl (lv_at hl 3 rfl) ?_
    refine v_callW C S (h_closureStart_x0 (L := L) hm hSh ok_1 ok_194) ⟨cd_L_closureStart, ni_RL, ml_RL_318, st_L_closureStart⟩ ⟨by decide, by decide⟩ rfl ⟨by decide, by decide⟩ hl.1 rfl (Nat.le_of_ble_eq_true rfl) ⟨by show _ ≤ 601024; omega, by show _ ≤ 7293034; omega⟩ dL_law_2708 (fun w σ' H locs hp S => ?_)
    obtain ⟨rfl, rfl⟩ := hp
    have S : S2 g s σ1 R L H locs := S
    refine lv_istore (lv' := [(5, .int 1), (0, .ref b), (1, .ref (gb g + 1)), (2, .ref (gb g + 178)), (3, .ref (gb g + 194)), (4, .int x4)]) hx hb dL_law_2711 hl (by decide) rfl (fun ls hl => ?_)
    refine lv_aload_n hx hb dL_law_2713 rfl (lv_at hl 3 rfl) ?_
    refine lv_aload_n hx hb dL_law_2714 rfl (lv_at hl 1 rfl) ?_
    refine lv_iload hx hb dL_law_2715 (lv_at hl 5 rfl) ?_
    refine lv_iconst (v := (1 : Int32)) hx hb dL_law_2717 (by decide) ?_
    refine lv_iadd hx hb dL_law_2718 ?_
    refine va_sld hx hb hX hbl hbA S.2 h1 dL_law_2719 ?_
    refine lv_aload_n hx hb dL_law_2720 rfl (lv_at hl 1 rfl) ?_
    refine lv_iload hx hb dL_law_2721 (lv_at hl 5 rfl) ?_
    refine lv_iconst (v := (2 : Int32)) hx hb dL_law_2723 (by decide) ?_
    refine lv_iadd hx hb dL_law_2724 ?_
    refine va_sld hx hb hX hbl hbA S.2 h2 dL_law_2725 ?_
    refine x_callVI C S KX12 ok_178 (ok_X12_closureStart (L := L) hmod hSh ok_178) ⟨cd_X12_closureStart, ni_RX12, ml_RL_320, in_X12_closureStart, sl_X12_closureStart⟩ ⟨by decide, by decide⟩ rfl ⟨by decide, by decide⟩ hl.1 rfl (Nat.le_of_ble_eq_true rfl) ⟨by show _ ≤ 601024; omega, by show _ ≤ 7293034; omega⟩ dL_law_2726 (fun H locs S => ?_)
    refine lv_istore (lv' := [(6, .int b2), (5, .int 1), (0, .ref b), (1, .ref (gb g + 1)), (2, .ref (gb g + 178)), (3, .ref (gb g + 194)), (4, .int x4)]) hx hb dL_law_2729 hl (by decide) rfl (fun ls hl => ?_)
    refine lv_aload_n hx hb dL_law_2731 rfl (lv_at hl 4 rfl) ?_
    refine x_callVI C S KX12 ok_178 (ok_X12_thrown (L := L) (thr_eq N R σ2 178) hSh ok_178) ⟨cd_X12_thrown, ni_RX12, ml_RL_178, in_X12_thrown, sl_X12_thrown⟩ ⟨by decide, by decide⟩ rfl ⟨by decide, by decide⟩ hl.1 rfl (Nat.le_of_ble_eq_true rfl) ⟨by show _ ≤ 601024; omega, by show _ ≤ 7293034; omega⟩ dL_law_2732 (fun H locs S => ?_)
    refine lv_iload hx hb dL_law_2735 (lv_at hl 1 rfl) ?_
    refine lv_icmp_eq (tgt := 2742) hx hb dL_law_2737 (by decide) (fun c1 => ?_) (fun c1 => absurd ht c1)
    refine lv_iload hx hb dL_law_2742 (lv_at hl 1 rfl) ?_
    refine lv_if_ne (tgt := 2759) hx hb dL_law_2744 (by decide) (fun c2 => ?_) (fun c2 => absurd c2 (by decide))
    refine lv_goto (tgt := 3423) hx hb dL_law_2759 (by decide) ?_
    exact W.widen (k := cells + 4) (n := slots + 24) (by omega) (by omega) (kk σ2 R L H locs ls hI2 S (lv_sub hl [2, 3, 4, 5, 6] rfl))
