theorem dL_law_2111 : decode cL_law 2111 = .ok (.ireturn, 1) := by decide +kernel
theorem dL_law_2112 : decode cL_law 2112 = .ok (.iload 5, 2) := by decide +kernel
theorem dL_law_2114 : decode cL_law 2114 = .ok (.ifCond .ne 15, 3) := by decide +kernel
theorem dL_law_2117 : decode cL_law 2117 = .ok (.aload_n 3, 1) := by decide +kernel
theorem dL_law_2118 : decode cL_law 2118 = .ok (.iconst 0, 1) := by decide +kernel
theorem dL_law_2119 : decode cL_law 2119 = .ok (.laload, 1) := by decide +kernel
theorem dL_law_2120 : decode cL_law 2120 = .ok (.iload 6, 2) := by decide +kernel
theorem dL_law_2122 : decode cL_law 2122 = .ok (.i2l, 1) := by decide +kernel
theorem dL_law_2123 : decode cL_law 2123 = .ok (.lcmp, 1) := by decide +kernel
theorem dL_law_2124 : decode cL_law 2124 = .ok (.ifCond .eq 5, 3) := by decide +kernel
theorem dL_law_2127 : decode cL_law 2127 = .ok (.iconst 0, 1) := by decide +kernel
theorem dL_law_2128 : decode cL_law 2128 = .ok (.ireturn, 1) := by decide +kernel
theorem dL_law_2129 : decode cL_law 2129 = .ok (.goto 947, 3) := by decide +kernel
theorem dL_law_2132 : decode cL_law 2132 = .ok (.aload_n 1, 1) := by decide +kernel
theorem dL_law_2133 : decode cL_law 2133 = .ok (.aload_n 0, 1) := by decide +kernel
theorem dL_law_2134 : decode cL_law 2134 = .ok (.iload 4, 2) := by decide +kernel
theorem dL_law_2136 : decode cL_law 2136 = .ok (.iconst 1, 1) := by decide +kernel
theorem dL_law_2137 : decode cL_law 2137 = .ok (.iadd, 1) := by decide +kernel
theorem dL_law_2138 : decode cL_law 2138 = .ok (.iaload, 1) := by decide +kernel
theorem dL_law_2139 : decode cL_law 2139 = .ok (.aload_n 0, 1) := by decide +kernel
theorem dL_law_2140 : decode cL_law 2140 = .ok (.iload 4, 2) := by decide +kernel
theorem dL_law_2142 : decode cL_law 2142 = .ok (.iconst 2, 1) := by decide +kernel
theorem dL_law_2143 : decode cL_law 2143 = .ok (.iadd, 1) := by decide +kernel
theorem dL_law_2144 : decode cL_law 2144 = .ok (.iaload, 1) := by decide +kernel
theorem dL_law_2145 : decode cL_law 2145 = .ok (.aload_n 0, 1) := by decide +kernel
theorem dL_law_2146 : decode cL_law 2146 = .ok (.iload 4, 2) := by decide +kernel
theorem dL_law_2148 : decode cL_law 2148 = .ok (.iconst 3, 1) := by decide +kernel
theorem dL_law_2149 : decode cL_law 2149 = .ok (.iadd, 1) := by decide +kernel
theorem dL_law_2150 : decode cL_law 2150 = .ok (.iaload, 1) := by decide +kernel
theorem dL_law_2151 : decode cL_law 2151 = .ok (.aload_n 3, 1) := by decide +kernel
theorem dL_law_2152 : decode cL_law 2152 = .ok (.invokestatic 236, 3) := by decide +kernel
theorem dL_law_2155 : decode cL_law 2155 = .ok (.istore 5, 2) := by decide +kernel
theorem dL_law_2157 : decode cL_law 2157 = .ok (.aload_n 2, 1) := by decide +kernel
theorem dL_law_2158 : decode cL_law 2158 = .ok (.aload_n 0, 1) := by decide +kernel
theorem dL_law_2159 : decode cL_law 2159 = .ok (.iload 4, 2) := by decide +kernel
theorem dL_law_2161 : decode cL_law 2161 = .ok (.iconst 1, 1) := by decide +kernel
theorem dL_law_2162 : decode cL_law 2162 = .ok (.iadd, 1) := by decide +kernel
theorem dL_law_2163 : decode cL_law 2163 = .ok (.iaload, 1) := by decide +kernel
theorem dL_law_2164 : decode cL_law 2164 = .ok (.aload_n 0, 1) := by decide +kernel
theorem dL_law_2165 : decode cL_law 2165 = .ok (.iload 4, 2) := by decide +kernel
theorem dL_law_2167 : decode cL_law 2167 = .ok (.iconst 2, 1) := by decide +kernel
theorem dL_law_2168 : decode cL_law 2168 = .ok (.iadd, 1) := by decide +kernel
theorem dL_law_2169 : decode cL_law 2169 = .ok (.iaload, 1) := by decide +kernel
theorem dL_law_2170 : decode cL_law 2170 = .ok (.aload_n 0, 1) := by decide +kernel
theorem dL_law_2171 : decode cL_law 2171 = .ok (.iload 4, 2) := by decide +kernel
theorem dL_law_2173 : decode cL_law 2173 = .ok (.iconst 3, 1) := by decide +kernel
theorem dL_law_2174 : decode cL_law 2174 = .ok (.iadd, 1) := by decide +kernel
theorem dL_law_2175 : decode cL_law 2175 = .ok (.iaload, 1) := by decide +kernel
theorem dL_law_2176 : decode cL_law 2176 = .ok (.invokevirtual 238, 3) := by decide +kernel
theorem dL_law_2179 : decode cL_law 2179 = .ok (.istore 6, 2) := by decide +kernel
theorem dL_law_2181 : decode cL_law 2181 = .ok (.aload_n 2, 1) := by decide +kernel
theorem dL_law_2182 : decode cL_law 2182 = .ok (.invokevirtual 152, 3) := by decide +kernel
theorem dL_law_2185 : decode cL_law 2185 = .ok (.iload 5, 2) := by decide +kernel
theorem dL_law_2187 : decode cL_law 2187 = .ok (.if_icmp .eq 5, 3) := by decide +kernel
theorem dL_law_2190 : decode cL_law 2190 = .ok (.iconst 0, 1) := by decide +kernel
theorem dL_law_2191 : decode cL_law 2191 = .ok (.ireturn, 1) := by decide +kernel
theorem dL_law_2192 : decode cL_law 2192 = .ok (.iload 5, 2) := by decide +kernel
theorem dL_law_2194 : decode cL_law 2194 = .ok (.ifCond .ne 15, 3) := by decide +kernel
theorem dL_law_2197 : decode cL_law 2197 = .ok (.aload_n 3, 1) := by decide +kernel
theorem dL_law_2198 : decode cL_law 2198 = .ok (.iconst 0, 1) := by decide +kernel
theorem dL_law_2199 : decode cL_law 2199 = .ok (.laload, 1) := by decide +kernel
theorem dL_law_2200 : decode cL_law 2200 = .ok (.iload 6, 2) := by decide +kernel
theorem dL_law_2202 : decode cL_law 2202 = .ok (.i2l, 1) := by decide +kernel
theorem dL_law_2203 : decode cL_law 2203 = .ok (.lcmp, 1) := by decide +kernel
theorem dL_law_2204 : decode cL_law 2204 = .ok (.ifCond .eq 5, 3) := by decide +kernel
theorem dL_law_2207 : decode cL_law 2207 = .ok (.iconst 0, 1) := by decide +kernel
theorem dL_law_2208 : decode cL_law 2208 = .ok (.ireturn, 1) := by decide +kernel
theorem dL_law_2209 : decode cL_law 2209 = .ok (.goto 867, 3) := by decide +kernel
theorem dL_law_2212 : decode cL_law 2212 = .ok (.aload_n 1, 1) := by decide +kernel
theorem dL_law_2213 : decode cL_law 2213 = .ok (.aload_n 0, 1) := by decide +kernel
theorem dL_law_2214 : decode cL_law 2214 = .ok (.iload 4, 2) := by decide +kernel
theorem dL_law_2216 : decode cL_law 2216 = .ok (.iconst 1, 1) := by decide +kernel
theorem dL_law_2217 : decode cL_law 2217 = .ok (.iadd, 1) := by decide +kernel
theorem dL_law_2218 : decode cL_law 2218 = .ok (.iaload, 1) := by decide +kernel
theorem dL_law_2219 : decode cL_law 2219 = .ok (.aload_n 0, 1) := by decide +kernel
theorem dL_law_2220 : decode cL_law 2220 = .ok (.iload 4, 2) := by decide +kernel
theorem dL_law_2222 : decode cL_law 2222 = .ok (.iconst 2, 1) := by decide +kernel
theorem dL_law_2223 : decode cL_law 2223 = .ok (.iadd, 1) := by decide +kernel
theorem dL_law_2224 : decode cL_law 2224 = .ok (.iaload, 1) := by decide +kernel
theorem dL_law_2225 : decode cL_law 2225 = .ok (.aload_n 3, 1) := by decide +kernel
theorem dL_law_2226 : decode cL_law 2226 = .ok (.invokestatic 239, 3) := by decide +kernel
theorem dL_law_2229 : decode cL_law 2229 = .ok (.istore 5, 2) := by decide +kernel
theorem dL_law_2231 : decode cL_law 2231 = .ok (.aload_n 2, 1) := by decide +kernel
theorem dL_law_2232 : decode cL_law 2232 = .ok (.aload_n 0, 1) := by decide +kernel
theorem dL_law_2233 : decode cL_law 2233 = .ok (.iload 4, 2) := by decide +kernel
theorem dL_law_2235 : decode cL_law 2235 = .ok (.iconst 1, 1) := by decide +kernel
theorem dL_law_2236 : decode cL_law 2236 = .ok (.iadd, 1) := by decide +kernel
theorem dL_law_2237 : decode cL_law 2237 = .ok (.iaload, 1) := by decide +kernel
theorem dL_law_2238 : decode cL_law 2238 = .ok (.aload_n 0, 1) := by decide +kernel
theorem dL_law_2239 : decode cL_law 2239 = .ok (.iload 4, 2) := by decide +kernel
theorem dL_law_2241 : decode cL_law 2241 = .ok (.iconst 2, 1) := by decide +kernel
theorem dL_law_2242 : decode cL_law 2242 = .ok (.iadd, 1) := by decide +kernel
theorem dL_law_2243 : decode cL_law 2243 = .ok (.iaload, 1) := by decide +kernel
theorem dL_law_2244 : decode cL_law 2244 = .ok (.invokevirtual 241, 3) := by decide +kernel
theorem dL_law_2247 : decode cL_law 2247 = .ok (.istore 6, 2) := by decide +kernel
theorem dL_law_2249 : decode cL_law 2249 = .ok (.aload_n 2, 1) := by decide +kernel
theorem dL_law_2250 : decode cL_law 2250 = .ok (.invokevirtual 152, 3) := by decide +kernel
theorem dL_law_2253 : decode cL_law 2253 = .ok (.iload 5, 2) := by decide +kernel
theorem dL_law_2255 : decode cL_law 2255 = .ok (.if_icmp .eq 5, 3) := by decide +kernel
theorem dL_law_2258 : decode cL_law 2258 = .ok (.iconst 0, 1) := by decide +kernel
theorem dL_law_2259 : decode cL_law 2259 = .ok (.ireturn, 1) := by decide +kernel
theorem dL_law_2260 : decode cL_law 2260 = .ok (.iload 5, 2) := by decide +kernel
theorem dL_law_2262 : decode cL_law 2262 = .ok (.ifCond .ne 15, 3) := by decide +kernel
theorem dL_law_2265 : decode cL_law 2265 = .ok (.aload_n 3, 1) := by decide +kernel
theorem dL_law_2266 : decode cL_law 2266 = .ok (.iconst 0, 1) := by decide +kernel
theorem dL_law_2267 : decode cL_law 2267 = .ok (.laload, 1) := by decide +kernel
theorem dL_law_2268 : decode cL_law 2268 = .ok (.iload 6, 2) := by decide +kernel
theorem dL_law_2270 : decode cL_law 2270 = .ok (.i2l, 1) := by decide +kernel
theorem dL_law_2271 : decode cL_law 2271 = .ok (.lcmp, 1) := by decide +kernel
theorem dL_law_2272 : decode cL_law 2272 = .ok (.ifCond .eq 5, 3) := by decide +kernel
theorem dL_law_2275 : decode cL_law 2275 = .ok (.iconst 0, 1) := by decide +kernel
theorem dL_law_2276 : decode cL_law 2276 = .ok (.ireturn, 1) := by decide +kernel
theorem dL_law_2277 : decode cL_law 2277 = .ok (.goto 799, 3) := by decide +kernel
theorem dL_law_2280 : decode cL_law 2280 = .ok (.aload_n 1, 1) := by decide +kernel
theorem dL_law_2281 : decode cL_law 2281 = .ok (.aload_n 0, 1) := by decide +kernel
theorem dL_law_2282 : decode cL_law 2282 = .ok (.iload 4, 2) := by decide +kernel
theorem dL_law_2284 : decode cL_law 2284 = .ok (.iconst 1, 1) := by decide +kernel
theorem dL_law_2285 : decode cL_law 2285 = .ok (.iadd, 1) := by decide +kernel
theorem dL_law_2286 : decode cL_law 2286 = .ok (.iaload, 1) := by decide +kernel
theorem dL_law_2287 : decode cL_law 2287 = .ok (.aload_n 0, 1) := by decide +kernel
theorem dL_law_2288 : decode cL_law 2288 = .ok (.iload 4, 2) := by decide +kernel
theorem dL_law_2290 : decode cL_law 2290 = .ok (.iconst 2, 1) := by decide +kernel
theorem dL_law_2291 : decode cL_law 2291 = .ok (.iadd, 1) := by decide +kernel
theorem dL_law_2292 : decode cL_law 2292 = .ok (.iaload, 1) := by decide +kernel
theorem dL_law_2293 : decode cL_law 2293 = .ok (.aload_n 3, 1) := by decide +kernel
theorem dL_law_2294 : decode cL_law 2294 = .ok (.invokestatic 242, 3) := by decide +kernel
theorem dL_law_2297 : decode cL_law 2297 = .ok (.istore 5, 2) := by decide +kernel
theorem dL_law_2299 : decode cL_law 2299 = .ok (.aload_n 2, 1) := by decide +kernel
theorem dL_law_2300 : decode cL_law 2300 = .ok (.aload_n 0, 1) := by decide +kernel
theorem dL_law_2301 : decode cL_law 2301 = .ok (.iload 4, 2) := by decide +kernel
theorem dL_law_2303 : decode cL_law 2303 = .ok (.iconst 1, 1) := by decide +kernel
theorem dL_law_2304 : decode cL_law 2304 = .ok (.iadd, 1) := by decide +kernel
theorem dL_law_2305 : decode cL_law 2305 = .ok (.iaload, 1) := by decide +kernel
theorem dL_law_2306 : decode cL_law 2306 = .ok (.aload_n 0, 1) := by decide +kernel
theorem dL_law_2307 : decode cL_law 2307 = .ok (.iload 4, 2) := by decide +kernel
theorem dL_law_2309 : decode cL_law 2309 = .ok (.iconst 2, 1) := by decide +kernel
theorem dL_law_2310 : decode cL_law 2310 = .ok (.iadd, 1) := by decide +kernel
theorem dL_law_2311 : decode cL_law 2311 = .ok (.iaload, 1) := by decide +kernel
theorem dL_law_2312 : decode cL_law 2312 = .ok (.invokevirtual 244, 3) := by decide +kernel
theorem dL_law_2315 : decode cL_law 2315 = .ok (.istore 6, 2) := by decide +kernel
theorem dL_law_2317 : decode cL_law 2317 = .ok (.aload_n 2, 1) := by decide +kernel
theorem dL_law_2318 : decode cL_law 2318 = .ok (.invokevirtual 152, 3) := by decide +kernel
theorem dL_law_2321 : decode cL_law 2321 = .ok (.iload 5, 2) := by decide +kernel
theorem dL_law_2323 : decode cL_law 2323 = .ok (.if_icmp .eq 5, 3) := by decide +kernel
theorem dL_law_2326 : decode cL_law 2326 = .ok (.iconst 0, 1) := by decide +kernel
theorem dL_law_2327 : decode cL_law 2327 = .ok (.ireturn, 1) := by decide +kernel
theorem dL_law_2328 : decode cL_law 2328 = .ok (.iload 5, 2) := by decide +kernel
theorem dL_law_2330 : decode cL_law 2330 = .ok (.ifCond .ne 15, 3) := by decide +kernel
theorem dL_law_2333 : decode cL_law 2333 = .ok (.aload_n 3, 1) := by decide +kernel
theorem dL_law_2334 : decode cL_law 2334 = .ok (.iconst 0, 1) := by decide +kernel
theorem dL_law_2335 : decode cL_law 2335 = .ok (.laload, 1) := by decide +kernel
theorem dL_law_2336 : decode cL_law 2336 = .ok (.iload 6, 2) := by decide +kernel
theorem dL_law_2338 : decode cL_law 2338 = .ok (.i2l, 1) := by decide +kernel
theorem dL_law_2339 : decode cL_law 2339 = .ok (.lcmp, 1) := by decide +kernel
theorem dL_law_2340 : decode cL_law 2340 = .ok (.ifCond .eq 5, 3) := by decide +kernel
theorem dL_law_2343 : decode cL_law 2343 = .ok (.iconst 0, 1) := by decide +kernel
theorem dL_law_2344 : decode cL_law 2344 = .ok (.ireturn, 1) := by decide +kernel
theorem dL_law_2345 : decode cL_law 2345 = .ok (.goto 731, 3) := by decide +kernel
theorem dL_law_2348 : decode cL_law 2348 = .ok (.aload_n 1, 1) := by decide +kernel
theorem dL_law_2349 : decode cL_law 2349 = .ok (.aload_n 0, 1) := by decide +kernel
theorem dL_law_2350 : decode cL_law 2350 = .ok (.iload 4, 2) := by decide +kernel
theorem dL_law_2352 : decode cL_law 2352 = .ok (.iconst 1, 1) := by decide +kernel
theorem dL_law_2353 : decode cL_law 2353 = .ok (.iadd, 1) := by decide +kernel
theorem dL_law_2354 : decode cL_law 2354 = .ok (.iaload, 1) := by decide +kernel
theorem dL_law_2355 : decode cL_law 2355 = .ok (.aload_n 0, 1) := by decide +kernel
theorem dL_law_2356 : decode cL_law 2356 = .ok (.iload 4, 2) := by decide +kernel
theorem dL_law_2358 : decode cL_law 2358 = .ok (.iconst 2, 1) := by decide +kernel
theorem dL_law_2359 : decode cL_law 2359 = .ok (.iadd, 1) := by decide +kernel
theorem dL_law_2360 : decode cL_law 2360 = .ok (.iaload, 1) := by decide +kernel
theorem dL_law_2361 : decode cL_law 2361 = .ok (.aload_n 0, 1) := by decide +kernel
theorem dL_law_2362 : decode cL_law 2362 = .ok (.iload 4, 2) := by decide +kernel
theorem dL_law_2364 : decode cL_law 2364 = .ok (.iconst 3, 1) := by decide +kernel
theorem dL_law_2365 : decode cL_law 2365 = .ok (.iadd, 1) := by decide +kernel
theorem dL_law_2366 : decode cL_law 2366 = .ok (.iaload, 1) := by decide +kernel
theorem dL_law_2367 : decode cL_law 2367 = .ok (.aload_n 3, 1) := by decide +kernel
theorem dL_law_2368 : decode cL_law 2368 = .ok (.invokestatic 245, 3) := by decide +kernel
theorem dL_law_2371 : decode cL_law 2371 = .ok (.istore 5, 2) := by decide +kernel
theorem dL_law_2373 : decode cL_law 2373 = .ok (.aload_n 2, 1) := by decide +kernel
theorem dL_law_2374 : decode cL_law 2374 = .ok (.aload_n 0, 1) := by decide +kernel
theorem dL_law_2375 : decode cL_law 2375 = .ok (.iload 4, 2) := by decide +kernel
theorem dL_law_2377 : decode cL_law 2377 = .ok (.iconst 1, 1) := by decide +kernel
theorem dL_law_2378 : decode cL_law 2378 = .ok (.iadd, 1) := by decide +kernel
theorem dL_law_2379 : decode cL_law 2379 = .ok (.iaload, 1) := by decide +kernel
theorem dL_law_2380 : decode cL_law 2380 = .ok (.aload_n 0, 1) := by decide +kernel
theorem dL_law_2381 : decode cL_law 2381 = .ok (.iload 4, 2) := by decide +kernel
theorem dL_law_2383 : decode cL_law 2383 = .ok (.iconst 2, 1) := by decide +kernel
theorem dL_law_2384 : decode cL_law 2384 = .ok (.iadd, 1) := by decide +kernel
theorem dL_law_2385 : decode cL_law 2385 = .ok (.iaload, 1) := by decide +kernel
theorem dL_law_2386 : decode cL_law 2386 = .ok (.aload_n 0, 1) := by decide +kernel
theorem dL_law_2387 : decode cL_law 2387 = .ok (.iload 4, 2) := by decide +kernel
theorem dL_law_2389 : decode cL_law 2389 = .ok (.iconst 3, 1) := by decide +kernel
theorem dL_law_2390 : decode cL_law 2390 = .ok (.iadd, 1) := by decide +kernel
theorem dL_law_2391 : decode cL_law 2391 = .ok (.iaload, 1) := by decide +kernel
theorem dL_law_2392 : decode cL_law 2392 = .ok (.invokevirtual 247, 3) := by decide +kernel
theorem dL_law_2395 : decode cL_law 2395 = .ok (.istore 6, 2) := by decide +kernel
theorem dL_law_2397 : decode cL_law 2397 = .ok (.aload_n 2, 1) := by decide +kernel
theorem dL_law_2398 : decode cL_law 2398 = .ok (.invokevirtual 152, 3) := by decide +kernel
theorem dL_law_2401 : decode cL_law 2401 = .ok (.iload 5, 2) := by decide +kernel
theorem dL_law_2403 : decode cL_law 2403 = .ok (.if_icmp .eq 5, 3) := by decide +kernel
theorem dL_law_2406 : decode cL_law 2406 = .ok (.iconst 0, 1) := by decide +kernel
theorem dL_law_2407 : decode cL_law 2407 = .ok (.ireturn, 1) := by decide +kernel
theorem dL_law_2408 : decode cL_law 2408 = .ok (.iload 5, 2) := by decide +kernel
theorem dL_law_2410 : decode cL_law 2410 = .ok (.ifCond .ne 15, 3) := by decide +kernel
theorem dL_law_2413 : decode cL_law 2413 = .ok (.aload_n 3, 1) := by decide +kernel
theorem dL_law_2414 : decode cL_law 2414 = .ok (.iconst 0, 1) := by decide +kernel
theorem dL_law_2415 : decode cL_law 2415 = .ok (.laload, 1) := by decide +kernel
theorem dL_law_2416 : decode cL_law 2416 = .ok (.iload 6, 2) := by decide +kernel
theorem dL_law_2418 : decode cL_law 2418 = .ok (.i2l, 1) := by decide +kernel
theorem dL_law_2419 : decode cL_law 2419 = .ok (.lcmp, 1) := by decide +kernel
theorem dL_law_2420 : decode cL_law 2420 = .ok (.ifCond .eq 5, 3) := by decide +kernel
theorem dL_law_2423 : decode cL_law 2423 = .ok (.iconst 0, 1) := by decide +kernel
theorem dL_law_2424 : decode cL_law 2424 = .ok (.ireturn, 1) := by decide +kernel
theorem dL_law_2425 : decode cL_law 2425 = .ok (.goto 651, 3) := by decide +kernel
theorem dL_law_2428 : decode cL_law 2428 = .ok (.aload_n 1, 1) := by decide +kernel
theorem dL_law_2429 : decode cL_law 2429 = .ok (.aload_n 0, 1) := by decide +kernel
theorem dL_law_2430 : decode cL_law 2430 = .ok (.iload 4, 2) := by decide +kernel
theorem dL_law_2432 : decode cL_law 2432 = .ok (.iconst 1, 1) := by decide +kernel
theorem dL_law_2433 : decode cL_law 2433 = .ok (.iadd, 1) := by decide +kernel
theorem dL_law_2434 : decode cL_law 2434 = .ok (.iaload, 1) := by decide +kernel
theorem dL_law_2435 : decode cL_law 2435 = .ok (.aload_n 0, 1) := by decide +kernel
theorem dL_law_2436 : decode cL_law 2436 = .ok (.iload 4, 2) := by decide +kernel
theorem dL_law_2438 : decode cL_law 2438 = .ok (.iconst 2, 1) := by decide +kernel
theorem dL_law_2439 : decode cL_law 2439 = .ok (.iadd, 1) := by decide +kernel
theorem dL_law_2440 : decode cL_law 2440 = .ok (.iaload, 1) := by decide +kernel
theorem dL_law_2441 : decode cL_law 2441 = .ok (.aload_n 3, 1) := by decide +kernel
theorem dL_law_2442 : decode cL_law 2442 = .ok (.invokestatic 248, 3) := by decide +kernel
theorem dL_law_2445 : decode cL_law 2445 = .ok (.istore 5, 2) := by decide +kernel
theorem dL_law_2447 : decode cL_law 2447 = .ok (.aload_n 2, 1) := by decide +kernel
theorem dL_law_2448 : decode cL_law 2448 = .ok (.aload_n 0, 1) := by decide +kernel
theorem dL_law_2449 : decode cL_law 2449 = .ok (.iload 4, 2) := by decide +kernel
theorem dL_law_2451 : decode cL_law 2451 = .ok (.iconst 1, 1) := by decide +kernel
theorem dL_law_2452 : decode cL_law 2452 = .ok (.iadd, 1) := by decide +kernel
theorem dL_law_2453 : decode cL_law 2453 = .ok (.iaload, 1) := by decide +kernel
theorem dL_law_2454 : decode cL_law 2454 = .ok (.aload_n 0, 1) := by decide +kernel
theorem dL_law_2455 : decode cL_law 2455 = .ok (.iload 4, 2) := by decide +kernel
theorem dL_law_2457 : decode cL_law 2457 = .ok (.iconst 2, 1) := by decide +kernel
theorem dL_law_2458 : decode cL_law 2458 = .ok (.iadd, 1) := by decide +kernel
theorem dL_law_2459 : decode cL_law 2459 = .ok (.iaload, 1) := by decide +kernel
theorem dL_law_2460 : decode cL_law 2460 = .ok (.invokevirtual 250, 3) := by decide +kernel
theorem dL_law_2463 : decode cL_law 2463 = .ok (.istore 6, 2) := by decide +kernel
theorem dL_law_2465 : decode cL_law 2465 = .ok (.aload_n 2, 1) := by decide +kernel
theorem dL_law_2466 : decode cL_law 2466 = .ok (.invokevirtual 152, 3) := by decide +kernel
theorem dL_law_2469 : decode cL_law 2469 = .ok (.iload 5, 2) := by decide +kernel
theorem dL_law_2471 : decode cL_law 2471 = .ok (.if_icmp .eq 5, 3) := by decide +kernel
theorem dL_law_2474 : decode cL_law 2474 = .ok (.iconst 0, 1) := by decide +kernel
theorem dL_law_2475 : decode cL_law 2475 = .ok (.ireturn, 1) := by decide +kernel
theorem dL_law_2476 : decode cL_law 2476 = .ok (.iload 5, 2) := by decide +kernel
theorem dL_law_2478 : decode cL_law 2478 = .ok (.ifCond .ne 15, 3) := by decide +kernel
theorem dL_law_2481 : decode cL_law 2481 = .ok (.aload_n 3, 1) := by decide +kernel
theorem dL_law_2482 : decode cL_law 2482 = .ok (.iconst 0, 1) := by decide +kernel
theorem dL_law_2483 : decode cL_law 2483 = .ok (.laload, 1) := by decide +kernel
theorem dL_law_2484 : decode cL_law 2484 = .ok (.iload 6, 2) := by decide +kernel
theorem dL_law_2486 : decode cL_law 2486 = .ok (.i2l, 1) := by decide +kernel
theorem dL_law_2487 : decode cL_law 2487 = .ok (.lcmp, 1) := by decide +kernel
theorem dL_law_2488 : decode cL_law 2488 = .ok (.ifCond .eq 5, 3) := by decide +kernel
theorem dL_law_2491 : decode cL_law 2491 = .ok (.iconst 0, 1) := by decide +kernel
theorem dL_law_2492 : decode cL_law 2492 = .ok (.ireturn, 1) := by decide +kernel
theorem dL_law_2493 : decode cL_law 2493 = .ok (.goto 583, 3) := by decide +kernel
theorem dL_law_2496 : decode cL_law 2496 = .ok (.aload_n 1, 1) := by decide +kernel
theorem dL_law_2497 : decode cL_law 2497 = .ok (.aload_n 0, 1) := by decide +kernel
theorem dL_law_2498 : decode cL_law 2498 = .ok (.iload 4, 2) := by decide +kernel
theorem dL_law_2500 : decode cL_law 2500 = .ok (.iconst 1, 1) := by decide +kernel
theorem dL_law_2501 : decode cL_law 2501 = .ok (.iadd, 1) := by decide +kernel
theorem dL_law_2502 : decode cL_law 2502 = .ok (.iaload, 1) := by decide +kernel
theorem dL_law_2503 : decode cL_law 2503 = .ok (.aload_n 3, 1) := by decide +kernel
theorem dL_law_2504 : decode cL_law 2504 = .ok (.invokestatic 251, 3) := by decide +kernel
theorem dL_law_2507 : decode cL_law 2507 = .ok (.istore 5, 2) := by decide +kernel
theorem dL_law_2509 : decode cL_law 2509 = .ok (.aload_n 2, 1) := by decide +kernel
theorem dL_law_2510 : decode cL_law 2510 = .ok (.aload_n 0, 1) := by decide +kernel
theorem dL_law_2511 : decode cL_law 2511 = .ok (.iload 4, 2) := by decide +kernel
theorem dL_law_2513 : decode cL_law 2513 = .ok (.iconst 1, 1) := by decide +kernel
theorem dL_law_2514 : decode cL_law 2514 = .ok (.iadd, 1) := by decide +kernel
theorem dL_law_2515 : decode cL_law 2515 = .ok (.iaload, 1) := by decide +kernel
theorem dL_law_2516 : decode cL_law 2516 = .ok (.invokevirtual 253, 3) := by decide +kernel
theorem dL_law_2519 : decode cL_law 2519 = .ok (.istore 6, 2) := by decide +kernel
theorem dL_law_2521 : decode cL_law 2521 = .ok (.aload_n 2, 1) := by decide +kernel
theorem dL_law_2522 : decode cL_law 2522 = .ok (.invokevirtual 152, 3) := by decide +kernel
theorem dL_law_2525 : decode cL_law 2525 = .ok (.iload 5, 2) := by decide +kernel
theorem dL_law_2527 : decode cL_law 2527 = .ok (.if_icmp .eq 5, 3) := by decide +kernel
theorem dL_law_2530 : decode cL_law 2530 = .ok (.iconst 0, 1) := by decide +kernel
theorem dL_law_2531 : decode cL_law 2531 = .ok (.ireturn, 1) := by decide +kernel
theorem dL_law_2532 : decode cL_law 2532 = .ok (.iload 5, 2) := by decide +kernel
theorem dL_law_2534 : decode cL_law 2534 = .ok (.ifCond .ne 15, 3) := by decide +kernel
theorem dL_law_2537 : decode cL_law 2537 = .ok (.aload_n 3, 1) := by decide +kernel
theorem dL_law_2538 : decode cL_law 2538 = .ok (.iconst 0, 1) := by decide +kernel
theorem dL_law_2539 : decode cL_law 2539 = .ok (.laload, 1) := by decide +kernel
theorem dL_law_2540 : decode cL_law 2540 = .ok (.iload 6, 2) := by decide +kernel
theorem dL_law_2542 : decode cL_law 2542 = .ok (.i2l, 1) := by decide +kernel
theorem dL_law_2543 : decode cL_law 2543 = .ok (.lcmp, 1) := by decide +kernel
theorem dL_law_2544 : decode cL_law 2544 = .ok (.ifCond .eq 5, 3) := by decide +kernel
theorem dL_law_2547 : decode cL_law 2547 = .ok (.iconst 0, 1) := by decide +kernel
theorem dL_law_2548 : decode cL_law 2548 = .ok (.ireturn, 1) := by decide +kernel
theorem dL_law_2549 : decode cL_law 2549 = .ok (.goto 527, 3) := by decide +kernel
theorem dL_law_2552 : decode cL_law 2552 = .ok (.aload_n 1, 1) := by decide +kernel
theorem dL_law_2553 : decode cL_law 2553 = .ok (.aload_n 0, 1) := by decide +kernel
theorem dL_law_2554 : decode cL_law 2554 = .ok (.iload 4, 2) := by decide +kernel
theorem dL_law_2556 : decode cL_law 2556 = .ok (.iconst 1, 1) := by decide +kernel
theorem dL_law_2557 : decode cL_law 2557 = .ok (.iadd, 1) := by decide +kernel
theorem dL_law_2558 : decode cL_law 2558 = .ok (.iaload, 1) := by decide +kernel
theorem dL_law_2559 : decode cL_law 2559 = .ok (.aload_n 0, 1) := by decide +kernel
theorem dL_law_2560 : decode cL_law 2560 = .ok (.iload 4, 2) := by decide +kernel
theorem dL_law_2562 : decode cL_law 2562 = .ok (.iconst 2, 1) := by decide +kernel
theorem dL_law_2563 : decode cL_law 2563 = .ok (.iadd, 1) := by decide +kernel
theorem dL_law_2564 : decode cL_law 2564 = .ok (.iaload, 1) := by decide +kernel
theorem dL_law_2565 : decode cL_law 2565 = .ok (.aload_n 3, 1) := by decide +kernel
theorem dL_law_2566 : decode cL_law 2566 = .ok (.invokestatic 254, 3) := by decide +kernel
theorem dL_law_2569 : decode cL_law 2569 = .ok (.istore 5, 2) := by decide +kernel
theorem dL_law_2571 : decode cL_law 2571 = .ok (.aload_n 2, 1) := by decide +kernel
theorem dL_law_2572 : decode cL_law 2572 = .ok (.aload_n 0, 1) := by decide +kernel
theorem dL_law_2573 : decode cL_law 2573 = .ok (.iload 4, 2) := by decide +kernel
theorem dL_law_2575 : decode cL_law 2575 = .ok (.iconst 1, 1) := by decide +kernel
theorem dL_law_2576 : decode cL_law 2576 = .ok (.iadd, 1) := by decide +kernel
theorem dL_law_2577 : decode cL_law 2577 = .ok (.iaload, 1) := by decide +kernel
theorem dL_law_2578 : decode cL_law 2578 = .ok (.aload_n 0, 1) := by decide +kernel
theorem dL_law_2579 : decode cL_law 2579 = .ok (.iload 4, 2) := by decide +kernel
theorem dL_law_2581 : decode cL_law 2581 = .ok (.iconst 2, 1) := by decide +kernel
theorem dL_law_2582 : decode cL_law 2582 = .ok (.iadd, 1) := by decide +kernel
theorem dL_law_2583 : decode cL_law 2583 = .ok (.iaload, 1) := by decide +kernel
theorem dL_law_2584 : decode cL_law 2584 = .ok (.invokevirtual 256, 3) := by decide +kernel
theorem dL_law_2587 : decode cL_law 2587 = .ok (.istore 6, 2) := by decide +kernel
theorem dL_law_2589 : decode cL_law 2589 = .ok (.aload_n 2, 1) := by decide +kernel
theorem dL_law_2590 : decode cL_law 2590 = .ok (.invokevirtual 152, 3) := by decide +kernel
theorem dL_law_2593 : decode cL_law 2593 = .ok (.iload 5, 2) := by decide +kernel
