/-! THE LAW'S DECODE ROWS, 13 -/
theorem dL_law_2038 : decode cL_law 2038 = .ok (.iconst 0, 1) := by decide +kernel
theorem dL_law_2039 : decode cL_law 2039 = .ok (.istore 18, 2) := by decide +kernel
theorem dL_law_2041 : decode cL_law 2041 = .ok (.iload 18, 2) := by decide +kernel
theorem dL_law_2043 : decode cL_law 2043 = .ok (.aload_n 2, 1) := by decide +kernel
theorem dL_law_2044 : decode cL_law 2044 = .ok (.iconst 1, 1) := by decide +kernel
theorem dL_law_2045 : decode cL_law 2045 = .ok (.iaload, 1) := by decide +kernel
theorem dL_law_2046 : decode cL_law 2046 = .ok (.if_icmp .ge 89, 3) := by decide +kernel
theorem dL_law_2049 : decode cL_law 2049 = .ok (.iload 7, 2) := by decide +kernel
theorem dL_law_2051 : decode cL_law 2051 = .ok (.ifCond .eq 84, 3) := by decide +kernel
theorem dL_law_2054 : decode cL_law 2054 = .ok (.aload_n 1, 1) := by decide +kernel
theorem dL_law_2055 : decode cL_law 2055 = .ok (.iload 18, 2) := by decide +kernel
theorem dL_law_2057 : decode cL_law 2057 = .ok (.invokevirtual 71, 3) := by decide +kernel
theorem dL_law_2060 : decode cL_law 2060 = .ok (.istore 19, 2) := by decide +kernel
theorem dL_law_2062 : decode cL_law 2062 = .ok (.aload 6, 2) := by decide +kernel
theorem dL_law_2064 : decode cL_law 2064 = .ok (.iload 18, 2) := by decide +kernel
theorem dL_law_2066 : decode cL_law 2066 = .ok (.iaload, 1) := by decide +kernel
theorem dL_law_2067 : decode cL_law 2067 = .ok (.ldc 159, 2) := by decide +kernel
theorem dL_law_2069 : decode cL_law 2069 = .ok (.if_icmp .ne 36, 3) := by decide +kernel
theorem dL_law_2072 : decode cL_law 2072 = .ok (.iload 19, 2) := by decide +kernel
theorem dL_law_2074 : decode cL_law 2074 = .ok (.ldc 159, 2) := by decide +kernel
theorem dL_law_2076 : decode cL_law 2076 = .ok (.if_icmp .eq 21, 3) := by decide +kernel
theorem dL_law_2079 : decode cL_law 2079 = .ok (.iload 19, 2) := by decide +kernel
theorem dL_law_2081 : decode cL_law 2081 = .ok (.aload 5, 2) := by decide +kernel
theorem dL_law_2083 : decode cL_law 2083 = .ok (.iload 18, 2) := by decide +kernel
theorem dL_law_2085 : decode cL_law 2085 = .ok (.iaload, 1) := by decide +kernel
theorem dL_law_2086 : decode cL_law 2086 = .ok (.if_icmp .le 15, 3) := by decide +kernel
theorem dL_law_2089 : decode cL_law 2089 = .ok (.iload 19, 2) := by decide +kernel
theorem dL_law_2091 : decode cL_law 2091 = .ok (.aload_n 2, 1) := by decide +kernel
theorem dL_law_2092 : decode cL_law 2092 = .ok (.iconst 0, 1) := by decide +kernel
theorem dL_law_2093 : decode cL_law 2093 = .ok (.iaload, 1) := by decide +kernel
theorem dL_law_2094 : decode cL_law 2094 = .ok (.if_icmp .gt 7, 3) := by decide +kernel
theorem dL_law_2097 : decode cL_law 2097 = .ok (.iconst 1, 1) := by decide +kernel
theorem dL_law_2098 : decode cL_law 2098 = .ok (.goto 22, 3) := by decide +kernel
theorem dL_law_2101 : decode cL_law 2101 = .ok (.iconst 0, 1) := by decide +kernel
theorem dL_law_2102 : decode cL_law 2102 = .ok (.goto 18, 3) := by decide +kernel
theorem dL_law_2105 : decode cL_law 2105 = .ok (.iload 19, 2) := by decide +kernel
theorem dL_law_2107 : decode cL_law 2107 = .ok (.aload 6, 2) := by decide +kernel
theorem dL_law_2109 : decode cL_law 2109 = .ok (.iload 18, 2) := by decide +kernel
theorem dL_law_2111 : decode cL_law 2111 = .ok (.iaload, 1) := by decide +kernel
theorem dL_law_2112 : decode cL_law 2112 = .ok (.if_icmp .ne 7, 3) := by decide +kernel
theorem dL_law_2115 : decode cL_law 2115 = .ok (.iconst 1, 1) := by decide +kernel
theorem dL_law_2116 : decode cL_law 2116 = .ok (.goto 4, 3) := by decide +kernel
theorem dL_law_2119 : decode cL_law 2119 = .ok (.iconst 0, 1) := by decide +kernel
theorem dL_law_2120 : decode cL_law 2120 = .ok (.istore 7, 2) := by decide +kernel
theorem dL_law_2122 : decode cL_law 2122 = .ok (.aload 6, 2) := by decide +kernel
theorem dL_law_2124 : decode cL_law 2124 = .ok (.iload 18, 2) := by decide +kernel
theorem dL_law_2126 : decode cL_law 2126 = .ok (.iload 19, 2) := by decide +kernel
theorem dL_law_2128 : decode cL_law 2128 = .ok (.iastore, 1) := by decide +kernel
theorem dL_law_2129 : decode cL_law 2129 = .ok (.iinc 18 1, 3) := by decide +kernel
theorem dL_law_2132 : decode cL_law 2132 = .ok (.goto (-91), 3) := by decide +kernel
theorem dL_law_2135 : decode cL_law 2135 = .ok (.iconst 3, 1) := by decide +kernel
theorem dL_law_2136 : decode cL_law 2136 = .ok (.iload 8, 2) := by decide +kernel
theorem dL_law_2138 : decode cL_law 2138 = .ok (.bipush 20, 2) := by decide +kernel
theorem dL_law_2140 : decode cL_law 2140 = .ok (.irem, 1) := by decide +kernel
theorem dL_law_2141 : decode cL_law 2141 = .ok (.imul, 1) := by decide +kernel
theorem dL_law_2142 : decode cL_law 2142 = .ok (.istore 18, 2) := by decide +kernel
theorem dL_law_2144 : decode cL_law 2144 = .ok (.iconst 0, 1) := by decide +kernel
theorem dL_law_2145 : decode cL_law 2145 = .ok (.istore 19, 2) := by decide +kernel
theorem dL_law_2147 : decode cL_law 2147 = .ok (.iload 19, 2) := by decide +kernel
theorem dL_law_2149 : decode cL_law 2149 = .ok (.bipush 60, 2) := by decide +kernel
theorem dL_law_2151 : decode cL_law 2151 = .ok (.if_icmp .ge 54, 3) := by decide +kernel
theorem dL_law_2154 : decode cL_law 2154 = .ok (.iload 7, 2) := by decide +kernel
theorem dL_law_2156 : decode cL_law 2156 = .ok (.ifCond .eq 49, 3) := by decide +kernel
theorem dL_law_2159 : decode cL_law 2159 = .ok (.iload 8, 2) := by decide +kernel
theorem dL_law_2161 : decode cL_law 2161 = .ok (.bipush 19, 2) := by decide +kernel
theorem dL_law_2163 : decode cL_law 2163 = .ok (.if_icmp .le 42, 3) := by decide +kernel
theorem dL_law_2166 : decode cL_law 2166 = .ok (.aload_n 1, 1) := by decide +kernel
theorem dL_law_2167 : decode cL_law 2167 = .ok (.aload 4, 2) := by decide +kernel
theorem dL_law_2169 : decode cL_law 2169 = .ok (.iload 19, 2) := by decide +kernel
theorem dL_law_2171 : decode cL_law 2171 = .ok (.iaload, 1) := by decide +kernel
theorem dL_law_2172 : decode cL_law 2172 = .ok (.aload 4, 2) := by decide +kernel
theorem dL_law_2174 : decode cL_law 2174 = .ok (.iload 19, 2) := by decide +kernel
theorem dL_law_2176 : decode cL_law 2176 = .ok (.iconst 1, 1) := by decide +kernel
theorem dL_law_2177 : decode cL_law 2177 = .ok (.iadd, 1) := by decide +kernel
theorem dL_law_2178 : decode cL_law 2178 = .ok (.iaload, 1) := by decide +kernel
theorem dL_law_2179 : decode cL_law 2179 = .ok (.invokestatic 191, 3) := by decide +kernel
theorem dL_law_2182 : decode cL_law 2182 = .ok (.aload 4, 2) := by decide +kernel
theorem dL_law_2184 : decode cL_law 2184 = .ok (.iload 19, 2) := by decide +kernel
theorem dL_law_2186 : decode cL_law 2186 = .ok (.iconst 2, 1) := by decide +kernel
theorem dL_law_2187 : decode cL_law 2187 = .ok (.iadd, 1) := by decide +kernel
theorem dL_law_2188 : decode cL_law 2188 = .ok (.iaload, 1) := by decide +kernel
theorem dL_law_2189 : decode cL_law 2189 = .ok (.if_icmp .ne 7, 3) := by decide +kernel
theorem dL_law_2192 : decode cL_law 2192 = .ok (.iconst 1, 1) := by decide +kernel
theorem dL_law_2193 : decode cL_law 2193 = .ok (.goto 4, 3) := by decide +kernel
theorem dL_law_2196 : decode cL_law 2196 = .ok (.iconst 0, 1) := by decide +kernel
theorem dL_law_2197 : decode cL_law 2197 = .ok (.istore 7, 2) := by decide +kernel
theorem dL_law_2199 : decode cL_law 2199 = .ok (.iinc 19 3, 3) := by decide +kernel
theorem dL_law_2202 : decode cL_law 2202 = .ok (.goto (-55), 3) := by decide +kernel
theorem dL_law_2205 : decode cL_law 2205 = .ok (.aload 4, 2) := by decide +kernel
theorem dL_law_2207 : decode cL_law 2207 = .ok (.iload 18, 2) := by decide +kernel
theorem dL_law_2209 : decode cL_law 2209 = .ok (.aload_n 2, 1) := by decide +kernel
theorem dL_law_2210 : decode cL_law 2210 = .ok (.iconst 0, 1) := by decide +kernel
theorem dL_law_2211 : decode cL_law 2211 = .ok (.iaload, 1) := by decide +kernel
theorem dL_law_2212 : decode cL_law 2212 = .ok (.iastore, 1) := by decide +kernel
theorem dL_law_2213 : decode cL_law 2213 = .ok (.aload 4, 2) := by decide +kernel
theorem dL_law_2215 : decode cL_law 2215 = .ok (.iload 18, 2) := by decide +kernel
theorem dL_law_2217 : decode cL_law 2217 = .ok (.iconst 1, 1) := by decide +kernel
theorem dL_law_2218 : decode cL_law 2218 = .ok (.iadd, 1) := by decide +kernel
theorem dL_law_2219 : decode cL_law 2219 = .ok (.iload 11, 2) := by decide +kernel
theorem dL_law_2221 : decode cL_law 2221 = .ok (.iconst 2, 1) := by decide +kernel
theorem dL_law_2222 : decode cL_law 2222 = .ok (.irem, 1) := by decide +kernel
theorem dL_law_2223 : decode cL_law 2223 = .ok (.ifCond .ne 13, 3) := by decide +kernel
theorem dL_law_2226 : decode cL_law 2226 = .ok (.iload 11, 2) := by decide +kernel
theorem dL_law_2228 : decode cL_law 2228 = .ok (.iconst 2, 1) := by decide +kernel
theorem dL_law_2229 : decode cL_law 2229 = .ok (.idiv, 1) := by decide +kernel
theorem dL_law_2230 : decode cL_law 2230 = .ok (.bipush 12, 2) := by decide +kernel
theorem dL_law_2232 : decode cL_law 2232 = .ok (.irem, 1) := by decide +kernel
theorem dL_law_2233 : decode cL_law 2233 = .ok (.goto 13, 3) := by decide +kernel
theorem dL_law_2236 : decode cL_law 2236 = .ok (.bipush 100, 2) := by decide +kernel
theorem dL_law_2238 : decode cL_law 2238 = .ok (.iload 11, 2) := by decide +kernel
theorem dL_law_2240 : decode cL_law 2240 = .ok (.iconst 2, 1) := by decide +kernel
theorem dL_law_2241 : decode cL_law 2241 = .ok (.idiv, 1) := by decide +kernel
theorem dL_law_2242 : decode cL_law 2242 = .ok (.bipush 8, 2) := by decide +kernel
theorem dL_law_2244 : decode cL_law 2244 = .ok (.irem, 1) := by decide +kernel
theorem dL_law_2245 : decode cL_law 2245 = .ok (.iadd, 1) := by decide +kernel
theorem dL_law_2246 : decode cL_law 2246 = .ok (.iastore, 1) := by decide +kernel
theorem dL_law_2247 : decode cL_law 2247 = .ok (.aload 4, 2) := by decide +kernel
theorem dL_law_2249 : decode cL_law 2249 = .ok (.iload 18, 2) := by decide +kernel
theorem dL_law_2251 : decode cL_law 2251 = .ok (.iconst 2, 1) := by decide +kernel
theorem dL_law_2252 : decode cL_law 2252 = .ok (.iadd, 1) := by decide +kernel
theorem dL_law_2253 : decode cL_law 2253 = .ok (.aload_n 1, 1) := by decide +kernel
theorem dL_law_2254 : decode cL_law 2254 = .ok (.aload_n 2, 1) := by decide +kernel
theorem dL_law_2255 : decode cL_law 2255 = .ok (.iconst 0, 1) := by decide +kernel
theorem dL_law_2256 : decode cL_law 2256 = .ok (.iaload, 1) := by decide +kernel
theorem dL_law_2257 : decode cL_law 2257 = .ok (.aload 4, 2) := by decide +kernel
theorem dL_law_2259 : decode cL_law 2259 = .ok (.iload 18, 2) := by decide +kernel
theorem dL_law_2261 : decode cL_law 2261 = .ok (.iconst 1, 1) := by decide +kernel
theorem dL_law_2262 : decode cL_law 2262 = .ok (.iadd, 1) := by decide +kernel
theorem dL_law_2263 : decode cL_law 2263 = .ok (.iaload, 1) := by decide +kernel
theorem dL_law_2264 : decode cL_law 2264 = .ok (.invokestatic 191, 3) := by decide +kernel
theorem dL_law_2267 : decode cL_law 2267 = .ok (.iastore, 1) := by decide +kernel
theorem dL_law_2268 : decode cL_law 2268 = .ok (.iload 7, 2) := by decide +kernel
theorem dL_law_2270 : decode cL_law 2270 = .ok (.ifCond .eq 28, 3) := by decide +kernel
theorem dL_law_2273 : decode cL_law 2273 = .ok (.iload 8, 2) := by decide +kernel
theorem dL_law_2275 : decode cL_law 2275 = .ok (.bipush 40, 2) := by decide +kernel
theorem dL_law_2277 : decode cL_law 2277 = .ok (.irem, 1) := by decide +kernel
theorem dL_law_2278 : decode cL_law 2278 = .ok (.ifCond .gt 16, 3) := by decide +kernel
theorem dL_law_2281 : decode cL_law 2281 = .ok (.aload_n 1, 1) := by decide +kernel
theorem dL_law_2282 : decode cL_law 2282 = .ok (.aload_n 2, 1) := by decide +kernel
theorem dL_law_2283 : decode cL_law 2283 = .ok (.aload_n 3, 1) := by decide +kernel
theorem dL_law_2284 : decode cL_law 2284 = .ok (.iload 9, 2) := by decide +kernel
theorem dL_law_2286 : decode cL_law 2286 = .ok (.iconst 3, 1) := by decide +kernel
theorem dL_law_2287 : decode cL_law 2287 = .ok (.idiv, 1) := by decide +kernel
theorem dL_law_2288 : decode cL_law 2288 = .ok (.invokestatic 165, 3) := by decide +kernel
theorem dL_law_2291 : decode cL_law 2291 = .ok (.ifCond .eq 7, 3) := by decide +kernel
theorem dL_law_2294 : decode cL_law 2294 = .ok (.iconst 1, 1) := by decide +kernel
theorem dL_law_2295 : decode cL_law 2295 = .ok (.goto 4, 3) := by decide +kernel
theorem dL_law_2298 : decode cL_law 2298 = .ok (.iconst 0, 1) := by decide +kernel
theorem dL_law_2299 : decode cL_law 2299 = .ok (.istore 7, 2) := by decide +kernel
theorem dL_law_2301 : decode cL_law 2301 = .ok (.iinc 8 1, 3) := by decide +kernel
