theorem dl_2168 : decode code 2168 = .ok (.ifCond .ne 22, 3) := by decide +kernel
theorem dl_2171 : decode code 2171 = .ok (.aload_n 3, 1) := by decide +kernel
theorem dl_2172 : decode code 2172 = .ok (.iconst 0, 1) := by decide +kernel
theorem dl_2173 : decode code 2173 = .ok (.laload, 1) := by decide +kernel
theorem dl_2174 : decode code 2174 = .ok (.iload 6, 2) := by decide +kernel
theorem dl_2176 : decode code 2176 = .ok (.ifCond .eq 7, 3) := by decide +kernel
theorem dl_2179 : decode code 2179 = .ok (.lconst 1, 1) := by decide +kernel
theorem dl_2180 : decode code 2180 = .ok (.goto 4, 3) := by decide +kernel
theorem dl_2183 : decode code 2183 = .ok (.lconst 0, 1) := by decide +kernel
theorem dl_2184 : decode code 2184 = .ok (.lcmp, 1) := by decide +kernel
theorem dl_2185 : decode code 2185 = .ok (.ifCond .eq 5, 3) := by decide +kernel
theorem dl_2188 : decode code 2188 = .ok (.iconst 0, 1) := by decide +kernel
theorem dl_2189 : decode code 2189 = .ok (.ireturn, 1) := by decide +kernel
theorem dl_2190 : decode code 2190 = .ok (.goto 509, 3) := by decide +kernel
theorem dl_2193 : decode code 2193 = .ok (.aload_n 1, 1) := by decide +kernel
theorem dl_2194 : decode code 2194 = .ok (.invokevirtual 285, 3) := by decide +kernel
theorem dl_2197 : decode code 2197 = .ok (.aload_n 2, 1) := by decide +kernel
theorem dl_2198 : decode code 2198 = .ok (.invokevirtual 288, 3) := by decide +kernel
theorem dl_2201 : decode code 2201 = .ok (.if_icmp .eq 498, 3) := by decide +kernel
theorem dl_2204 : decode code 2204 = .ok (.iconst 0, 1) := by decide +kernel
theorem dl_2205 : decode code 2205 = .ok (.ireturn, 1) := by decide +kernel
theorem dl_2206 : decode code 2206 = .ok (.aload_n 1, 1) := by decide +kernel
theorem dl_2207 : decode code 2207 = .ok (.aload_n 0, 1) := by decide +kernel
theorem dl_2208 : decode code 2208 = .ok (.iload 4, 2) := by decide +kernel
theorem dl_2210 : decode code 2210 = .ok (.iconst 1, 1) := by decide +kernel
theorem dl_2211 : decode code 2211 = .ok (.iadd, 1) := by decide +kernel
theorem dl_2212 : decode code 2212 = .ok (.iaload, 1) := by decide +kernel
theorem dl_2213 : decode code 2213 = .ok (.aload_n 3, 1) := by decide +kernel
theorem dl_2214 : decode code 2214 = .ok (.invokestatic 289, 3) := by decide +kernel
theorem dl_2217 : decode code 2217 = .ok (.istore 5, 2) := by decide +kernel
theorem dl_2219 : decode code 2219 = .ok (.aload_n 2, 1) := by decide +kernel
theorem dl_2220 : decode code 2220 = .ok (.aload_n 0, 1) := by decide +kernel
theorem dl_2221 : decode code 2221 = .ok (.iload 4, 2) := by decide +kernel
theorem dl_2223 : decode code 2223 = .ok (.iconst 1, 1) := by decide +kernel
theorem dl_2224 : decode code 2224 = .ok (.iadd, 1) := by decide +kernel
theorem dl_2225 : decode code 2225 = .ok (.iaload, 1) := by decide +kernel
theorem dl_2226 : decode code 2226 = .ok (.invokevirtual 291, 3) := by decide +kernel
theorem dl_2229 : decode code 2229 = .ok (.istore 6, 2) := by decide +kernel
theorem dl_2231 : decode code 2231 = .ok (.aload_n 2, 1) := by decide +kernel
theorem dl_2232 : decode code 2232 = .ok (.invokevirtual 131, 3) := by decide +kernel
theorem dl_2235 : decode code 2235 = .ok (.iload 5, 2) := by decide +kernel
theorem dl_2237 : decode code 2237 = .ok (.if_icmp .eq 5, 3) := by decide +kernel
theorem dl_2240 : decode code 2240 = .ok (.iconst 0, 1) := by decide +kernel
theorem dl_2241 : decode code 2241 = .ok (.ireturn, 1) := by decide +kernel
theorem dl_2242 : decode code 2242 = .ok (.iload 5, 2) := by decide +kernel
theorem dl_2244 : decode code 2244 = .ok (.ifCond .ne 15, 3) := by decide +kernel
theorem dl_2247 : decode code 2247 = .ok (.aload_n 3, 1) := by decide +kernel
theorem dl_2248 : decode code 2248 = .ok (.iconst 0, 1) := by decide +kernel
theorem dl_2249 : decode code 2249 = .ok (.laload, 1) := by decide +kernel
theorem dl_2250 : decode code 2250 = .ok (.iload 6, 2) := by decide +kernel
theorem dl_2252 : decode code 2252 = .ok (.i2l, 1) := by decide +kernel
theorem dl_2253 : decode code 2253 = .ok (.lcmp, 1) := by decide +kernel
theorem dl_2254 : decode code 2254 = .ok (.ifCond .eq 5, 3) := by decide +kernel
theorem dl_2257 : decode code 2257 = .ok (.iconst 0, 1) := by decide +kernel
theorem dl_2258 : decode code 2258 = .ok (.ireturn, 1) := by decide +kernel
theorem dl_2259 : decode code 2259 = .ok (.goto 440, 3) := by decide +kernel
theorem dl_2262 : decode code 2262 = .ok (.aload_n 1, 1) := by decide +kernel
theorem dl_2263 : decode code 2263 = .ok (.aload_n 0, 1) := by decide +kernel
theorem dl_2264 : decode code 2264 = .ok (.iload 4, 2) := by decide +kernel
theorem dl_2266 : decode code 2266 = .ok (.iconst 1, 1) := by decide +kernel
theorem dl_2267 : decode code 2267 = .ok (.iadd, 1) := by decide +kernel
theorem dl_2268 : decode code 2268 = .ok (.iaload, 1) := by decide +kernel
theorem dl_2269 : decode code 2269 = .ok (.aload_n 3, 1) := by decide +kernel
theorem dl_2270 : decode code 2270 = .ok (.invokestatic 292, 3) := by decide +kernel
theorem dl_2273 : decode code 2273 = .ok (.istore 5, 2) := by decide +kernel
theorem dl_2275 : decode code 2275 = .ok (.aload_n 2, 1) := by decide +kernel
theorem dl_2276 : decode code 2276 = .ok (.aload_n 0, 1) := by decide +kernel
theorem dl_2277 : decode code 2277 = .ok (.iload 4, 2) := by decide +kernel
theorem dl_2279 : decode code 2279 = .ok (.iconst 1, 1) := by decide +kernel
theorem dl_2280 : decode code 2280 = .ok (.iadd, 1) := by decide +kernel
theorem dl_2281 : decode code 2281 = .ok (.iaload, 1) := by decide +kernel
theorem dl_2282 : decode code 2282 = .ok (.invokevirtual 294, 3) := by decide +kernel
theorem dl_2285 : decode code 2285 = .ok (.istore 6, 2) := by decide +kernel
theorem dl_2287 : decode code 2287 = .ok (.aload_n 2, 1) := by decide +kernel
theorem dl_2288 : decode code 2288 = .ok (.invokevirtual 131, 3) := by decide +kernel
theorem dl_2291 : decode code 2291 = .ok (.iload 5, 2) := by decide +kernel
theorem dl_2293 : decode code 2293 = .ok (.if_icmp .eq 5, 3) := by decide +kernel
theorem dl_2296 : decode code 2296 = .ok (.iconst 0, 1) := by decide +kernel
theorem dl_2297 : decode code 2297 = .ok (.ireturn, 1) := by decide +kernel
theorem dl_2298 : decode code 2298 = .ok (.iload 5, 2) := by decide +kernel
theorem dl_2300 : decode code 2300 = .ok (.ifCond .ne 22, 3) := by decide +kernel
theorem dl_2303 : decode code 2303 = .ok (.aload_n 3, 1) := by decide +kernel
theorem dl_2304 : decode code 2304 = .ok (.iconst 0, 1) := by decide +kernel
theorem dl_2305 : decode code 2305 = .ok (.laload, 1) := by decide +kernel
theorem dl_2306 : decode code 2306 = .ok (.iload 6, 2) := by decide +kernel
theorem dl_2308 : decode code 2308 = .ok (.ifCond .eq 7, 3) := by decide +kernel
theorem dl_2311 : decode code 2311 = .ok (.lconst 1, 1) := by decide +kernel
theorem dl_2312 : decode code 2312 = .ok (.goto 4, 3) := by decide +kernel
theorem dl_2315 : decode code 2315 = .ok (.lconst 0, 1) := by decide +kernel
theorem dl_2316 : decode code 2316 = .ok (.lcmp, 1) := by decide +kernel
theorem dl_2317 : decode code 2317 = .ok (.ifCond .eq 5, 3) := by decide +kernel
theorem dl_2320 : decode code 2320 = .ok (.iconst 0, 1) := by decide +kernel
theorem dl_2321 : decode code 2321 = .ok (.ireturn, 1) := by decide +kernel
theorem dl_2322 : decode code 2322 = .ok (.goto 377, 3) := by decide +kernel
theorem dl_2325 : decode code 2325 = .ok (.aload_n 1, 1) := by decide +kernel
theorem dl_2326 : decode code 2326 = .ok (.aload_n 0, 1) := by decide +kernel
theorem dl_2327 : decode code 2327 = .ok (.iload 4, 2) := by decide +kernel
theorem dl_2329 : decode code 2329 = .ok (.iconst 1, 1) := by decide +kernel
theorem dl_2330 : decode code 2330 = .ok (.iadd, 1) := by decide +kernel
theorem dl_2331 : decode code 2331 = .ok (.iaload, 1) := by decide +kernel
theorem dl_2332 : decode code 2332 = .ok (.aload_n 3, 1) := by decide +kernel
theorem dl_2333 : decode code 2333 = .ok (.invokestatic 295, 3) := by decide +kernel
theorem dl_2336 : decode code 2336 = .ok (.istore 5, 2) := by decide +kernel
theorem dl_2338 : decode code 2338 = .ok (.aload_n 2, 1) := by decide +kernel
theorem dl_2339 : decode code 2339 = .ok (.aload_n 0, 1) := by decide +kernel
theorem dl_2340 : decode code 2340 = .ok (.iload 4, 2) := by decide +kernel
theorem dl_2342 : decode code 2342 = .ok (.iconst 1, 1) := by decide +kernel
theorem dl_2343 : decode code 2343 = .ok (.iadd, 1) := by decide +kernel
theorem dl_2344 : decode code 2344 = .ok (.iaload, 1) := by decide +kernel
theorem dl_2345 : decode code 2345 = .ok (.invokevirtual 297, 3) := by decide +kernel
