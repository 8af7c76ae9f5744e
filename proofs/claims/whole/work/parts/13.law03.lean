theorem dL_law_2155 : decode cL_law 2155 = .ok (.iaload, 1) := by decide +kernel
theorem dL_law_2156 : decode cL_law 2156 = .ok (.aload_n 0, 1) := by decide +kernel
theorem dL_law_2157 : decode cL_law 2157 = .ok (.iload 4, 2) := by decide +kernel
theorem dL_law_2159 : decode cL_law 2159 = .ok (.iconst 4, 1) := by decide +kernel
theorem dL_law_2160 : decode cL_law 2160 = .ok (.iadd, 1) := by decide +kernel
theorem dL_law_2161 : decode cL_law 2161 = .ok (.iaload, 1) := by decide +kernel
theorem dL_law_2162 : decode cL_law 2162 = .ok (.aload_n 3, 1) := by decide +kernel
theorem dL_law_2163 : decode cL_law 2163 = .ok (.invokestatic 245, 3) := by decide +kernel
theorem dL_law_2166 : decode cL_law 2166 = .ok (.istore 5, 2) := by decide +kernel
theorem dL_law_2168 : decode cL_law 2168 = .ok (.aload_n 2, 1) := by decide +kernel
theorem dL_law_2169 : decode cL_law 2169 = .ok (.aload_n 0, 1) := by decide +kernel
theorem dL_law_2170 : decode cL_law 2170 = .ok (.iload 4, 2) := by decide +kernel
theorem dL_law_2172 : decode cL_law 2172 = .ok (.iconst 1, 1) := by decide +kernel
theorem dL_law_2173 : decode cL_law 2173 = .ok (.iadd, 1) := by decide +kernel
theorem dL_law_2174 : decode cL_law 2174 = .ok (.iaload, 1) := by decide +kernel
theorem dL_law_2175 : decode cL_law 2175 = .ok (.aload_n 0, 1) := by decide +kernel
theorem dL_law_2176 : decode cL_law 2176 = .ok (.iload 4, 2) := by decide +kernel
theorem dL_law_2178 : decode cL_law 2178 = .ok (.iconst 2, 1) := by decide +kernel
theorem dL_law_2179 : decode cL_law 2179 = .ok (.iadd, 1) := by decide +kernel
theorem dL_law_2180 : decode cL_law 2180 = .ok (.iaload, 1) := by decide +kernel
theorem dL_law_2181 : decode cL_law 2181 = .ok (.ifCond .eq 7, 3) := by decide +kernel
theorem dL_law_2184 : decode cL_law 2184 = .ok (.iconst 1, 1) := by decide +kernel
theorem dL_law_2185 : decode cL_law 2185 = .ok (.goto 4, 3) := by decide +kernel
theorem dL_law_2188 : decode cL_law 2188 = .ok (.iconst 0, 1) := by decide +kernel
theorem dL_law_2189 : decode cL_law 2189 = .ok (.aload_n 0, 1) := by decide +kernel
theorem dL_law_2190 : decode cL_law 2190 = .ok (.iload 4, 2) := by decide +kernel
theorem dL_law_2192 : decode cL_law 2192 = .ok (.iconst 3, 1) := by decide +kernel
theorem dL_law_2193 : decode cL_law 2193 = .ok (.iadd, 1) := by decide +kernel
theorem dL_law_2194 : decode cL_law 2194 = .ok (.iaload, 1) := by decide +kernel
theorem dL_law_2195 : decode cL_law 2195 = .ok (.aload_n 0, 1) := by decide +kernel
theorem dL_law_2196 : decode cL_law 2196 = .ok (.iload 4, 2) := by decide +kernel
theorem dL_law_2198 : decode cL_law 2198 = .ok (.iconst 4, 1) := by decide +kernel
theorem dL_law_2199 : decode cL_law 2199 = .ok (.iadd, 1) := by decide +kernel
theorem dL_law_2200 : decode cL_law 2200 = .ok (.iaload, 1) := by decide +kernel
theorem dL_law_2201 : decode cL_law 2201 = .ok (.invokevirtual 248, 3) := by decide +kernel
theorem dL_law_2204 : decode cL_law 2204 = .ok (.istore 6, 2) := by decide +kernel
theorem dL_law_2206 : decode cL_law 2206 = .ok (.aload_n 2, 1) := by decide +kernel
theorem dL_law_2207 : decode cL_law 2207 = .ok (.invokevirtual 130, 3) := by decide +kernel
theorem dL_law_2210 : decode cL_law 2210 = .ok (.iload 5, 2) := by decide +kernel
theorem dL_law_2212 : decode cL_law 2212 = .ok (.if_icmp .eq 5, 3) := by decide +kernel
theorem dL_law_2215 : decode cL_law 2215 = .ok (.iconst 0, 1) := by decide +kernel
theorem dL_law_2216 : decode cL_law 2216 = .ok (.ireturn, 1) := by decide +kernel
theorem dL_law_2217 : decode cL_law 2217 = .ok (.iload 5, 2) := by decide +kernel
theorem dL_law_2219 : decode cL_law 2219 = .ok (.ifCond .ne 15, 3) := by decide +kernel
theorem dL_law_2222 : decode cL_law 2222 = .ok (.aload_n 3, 1) := by decide +kernel
theorem dL_law_2223 : decode cL_law 2223 = .ok (.iconst 0, 1) := by decide +kernel
theorem dL_law_2224 : decode cL_law 2224 = .ok (.laload, 1) := by decide +kernel
theorem dL_law_2225 : decode cL_law 2225 = .ok (.iload 6, 2) := by decide +kernel
theorem dL_law_2227 : decode cL_law 2227 = .ok (.i2l, 1) := by decide +kernel
theorem dL_law_2228 : decode cL_law 2228 = .ok (.lcmp, 1) := by decide +kernel
theorem dL_law_2229 : decode cL_law 2229 = .ok (.ifCond .eq 5, 3) := by decide +kernel
theorem dL_law_2232 : decode cL_law 2232 = .ok (.iconst 0, 1) := by decide +kernel
theorem dL_law_2233 : decode cL_law 2233 = .ok (.ireturn, 1) := by decide +kernel
theorem dL_law_2234 : decode cL_law 2234 = .ok (.goto 539, 3) := by decide +kernel
theorem dL_law_2237 : decode cL_law 2237 = .ok (.aload_n 1, 1) := by decide +kernel
theorem dL_law_2238 : decode cL_law 2238 = .ok (.aload_n 0, 1) := by decide +kernel
theorem dL_law_2239 : decode cL_law 2239 = .ok (.iload 4, 2) := by decide +kernel
theorem dL_law_2241 : decode cL_law 2241 = .ok (.iconst 1, 1) := by decide +kernel
theorem dL_law_2242 : decode cL_law 2242 = .ok (.iadd, 1) := by decide +kernel
theorem dL_law_2243 : decode cL_law 2243 = .ok (.iaload, 1) := by decide +kernel
theorem dL_law_2244 : decode cL_law 2244 = .ok (.aload_n 0, 1) := by decide +kernel
theorem dL_law_2245 : decode cL_law 2245 = .ok (.iload 4, 2) := by decide +kernel
theorem dL_law_2247 : decode cL_law 2247 = .ok (.iconst 2, 1) := by decide +kernel
theorem dL_law_2248 : decode cL_law 2248 = .ok (.iadd, 1) := by decide +kernel
theorem dL_law_2249 : decode cL_law 2249 = .ok (.iaload, 1) := by decide +kernel
theorem dL_law_2250 : decode cL_law 2250 = .ok (.aload_n 0, 1) := by decide +kernel
theorem dL_law_2251 : decode cL_law 2251 = .ok (.iload 4, 2) := by decide +kernel
theorem dL_law_2253 : decode cL_law 2253 = .ok (.iconst 3, 1) := by decide +kernel
theorem dL_law_2254 : decode cL_law 2254 = .ok (.iadd, 1) := by decide +kernel
theorem dL_law_2255 : decode cL_law 2255 = .ok (.iaload, 1) := by decide +kernel
theorem dL_law_2256 : decode cL_law 2256 = .ok (.ifCond .eq 7, 3) := by decide +kernel
theorem dL_law_2259 : decode cL_law 2259 = .ok (.iconst 1, 1) := by decide +kernel
theorem dL_law_2260 : decode cL_law 2260 = .ok (.goto 4, 3) := by decide +kernel
theorem dL_law_2263 : decode cL_law 2263 = .ok (.iconst 0, 1) := by decide +kernel
theorem dL_law_2264 : decode cL_law 2264 = .ok (.aload_n 0, 1) := by decide +kernel
theorem dL_law_2265 : decode cL_law 2265 = .ok (.iload 4, 2) := by decide +kernel
theorem dL_law_2267 : decode cL_law 2267 = .ok (.iconst 4, 1) := by decide +kernel
theorem dL_law_2268 : decode cL_law 2268 = .ok (.iadd, 1) := by decide +kernel
theorem dL_law_2269 : decode cL_law 2269 = .ok (.iaload, 1) := by decide +kernel
theorem dL_law_2270 : decode cL_law 2270 = .ok (.aload_n 3, 1) := by decide +kernel
theorem dL_law_2271 : decode cL_law 2271 = .ok (.invokestatic 249, 3) := by decide +kernel
theorem dL_law_2274 : decode cL_law 2274 = .ok (.istore 5, 2) := by decide +kernel
theorem dL_law_2276 : decode cL_law 2276 = .ok (.aload_n 2, 1) := by decide +kernel
theorem dL_law_2277 : decode cL_law 2277 = .ok (.aload_n 0, 1) := by decide +kernel
theorem dL_law_2278 : decode cL_law 2278 = .ok (.iload 4, 2) := by decide +kernel
theorem dL_law_2280 : decode cL_law 2280 = .ok (.iconst 1, 1) := by decide +kernel
theorem dL_law_2281 : decode cL_law 2281 = .ok (.iadd, 1) := by decide +kernel
theorem dL_law_2282 : decode cL_law 2282 = .ok (.iaload, 1) := by decide +kernel
theorem dL_law_2283 : decode cL_law 2283 = .ok (.aload_n 0, 1) := by decide +kernel
theorem dL_law_2284 : decode cL_law 2284 = .ok (.iload 4, 2) := by decide +kernel
theorem dL_law_2286 : decode cL_law 2286 = .ok (.iconst 2, 1) := by decide +kernel
theorem dL_law_2287 : decode cL_law 2287 = .ok (.iadd, 1) := by decide +kernel
theorem dL_law_2288 : decode cL_law 2288 = .ok (.iaload, 1) := by decide +kernel
theorem dL_law_2289 : decode cL_law 2289 = .ok (.aload_n 0, 1) := by decide +kernel
theorem dL_law_2290 : decode cL_law 2290 = .ok (.iload 4, 2) := by decide +kernel
theorem dL_law_2292 : decode cL_law 2292 = .ok (.iconst 3, 1) := by decide +kernel
theorem dL_law_2293 : decode cL_law 2293 = .ok (.iadd, 1) := by decide +kernel
theorem dL_law_2294 : decode cL_law 2294 = .ok (.iaload, 1) := by decide +kernel
theorem dL_law_2295 : decode cL_law 2295 = .ok (.ifCond .eq 7, 3) := by decide +kernel
theorem dL_law_2298 : decode cL_law 2298 = .ok (.iconst 1, 1) := by decide +kernel
theorem dL_law_2299 : decode cL_law 2299 = .ok (.goto 4, 3) := by decide +kernel
theorem dL_law_2302 : decode cL_law 2302 = .ok (.iconst 0, 1) := by decide +kernel
theorem dL_law_2303 : decode cL_law 2303 = .ok (.aload_n 0, 1) := by decide +kernel
theorem dL_law_2304 : decode cL_law 2304 = .ok (.iload 4, 2) := by decide +kernel
theorem dL_law_2306 : decode cL_law 2306 = .ok (.iconst 4, 1) := by decide +kernel
theorem dL_law_2307 : decode cL_law 2307 = .ok (.iadd, 1) := by decide +kernel
theorem dL_law_2308 : decode cL_law 2308 = .ok (.iaload, 1) := by decide +kernel
theorem dL_law_2309 : decode cL_law 2309 = .ok (.invokevirtual 252, 3) := by decide +kernel
theorem dL_law_2312 : decode cL_law 2312 = .ok (.istore 6, 2) := by decide +kernel
theorem dL_law_2314 : decode cL_law 2314 = .ok (.aload_n 2, 1) := by decide +kernel
theorem dL_law_2315 : decode cL_law 2315 = .ok (.invokevirtual 130, 3) := by decide +kernel
theorem dL_law_2318 : decode cL_law 2318 = .ok (.iload 5, 2) := by decide +kernel
theorem dL_law_2320 : decode cL_law 2320 = .ok (.if_icmp .eq 5, 3) := by decide +kernel
theorem dL_law_2323 : decode cL_law 2323 = .ok (.iconst 0, 1) := by decide +kernel
theorem dL_law_2324 : decode cL_law 2324 = .ok (.ireturn, 1) := by decide +kernel
theorem dL_law_2325 : decode cL_law 2325 = .ok (.iload 5, 2) := by decide +kernel
theorem dL_law_2327 : decode cL_law 2327 = .ok (.ifCond .ne 15, 3) := by decide +kernel
theorem dL_law_2330 : decode cL_law 2330 = .ok (.aload_n 3, 1) := by decide +kernel
theorem dL_law_2331 : decode cL_law 2331 = .ok (.iconst 0, 1) := by decide +kernel
theorem dL_law_2332 : decode cL_law 2332 = .ok (.laload, 1) := by decide +kernel
theorem dL_law_2333 : decode cL_law 2333 = .ok (.iload 6, 2) := by decide +kernel
theorem dL_law_2335 : decode cL_law 2335 = .ok (.i2l, 1) := by decide +kernel
theorem dL_law_2336 : decode cL_law 2336 = .ok (.lcmp, 1) := by decide +kernel
theorem dL_law_2337 : decode cL_law 2337 = .ok (.ifCond .eq 5, 3) := by decide +kernel
theorem dL_law_2340 : decode cL_law 2340 = .ok (.iconst 0, 1) := by decide +kernel
theorem dL_law_2341 : decode cL_law 2341 = .ok (.ireturn, 1) := by decide +kernel
theorem dL_law_2342 : decode cL_law 2342 = .ok (.goto 431, 3) := by decide +kernel
theorem dL_law_2345 : decode cL_law 2345 = .ok (.aload_n 1, 1) := by decide +kernel
theorem dL_law_2346 : decode cL_law 2346 = .ok (.aload_n 0, 1) := by decide +kernel
theorem dL_law_2347 : decode cL_law 2347 = .ok (.iload 4, 2) := by decide +kernel
theorem dL_law_2349 : decode cL_law 2349 = .ok (.iconst 1, 1) := by decide +kernel
theorem dL_law_2350 : decode cL_law 2350 = .ok (.iadd, 1) := by decide +kernel
theorem dL_law_2351 : decode cL_law 2351 = .ok (.iaload, 1) := by decide +kernel
theorem dL_law_2352 : decode cL_law 2352 = .ok (.aload_n 3, 1) := by decide +kernel
theorem dL_law_2353 : decode cL_law 2353 = .ok (.invokestatic 253, 3) := by decide +kernel
theorem dL_law_2356 : decode cL_law 2356 = .ok (.istore 5, 2) := by decide +kernel
theorem dL_law_2358 : decode cL_law 2358 = .ok (.aload_n 2, 1) := by decide +kernel
theorem dL_law_2359 : decode cL_law 2359 = .ok (.aload_n 0, 1) := by decide +kernel
theorem dL_law_2360 : decode cL_law 2360 = .ok (.iload 4, 2) := by decide +kernel
theorem dL_law_2362 : decode cL_law 2362 = .ok (.iconst 1, 1) := by decide +kernel
theorem dL_law_2363 : decode cL_law 2363 = .ok (.iadd, 1) := by decide +kernel
theorem dL_law_2364 : decode cL_law 2364 = .ok (.iaload, 1) := by decide +kernel
theorem dL_law_2365 : decode cL_law 2365 = .ok (.invokevirtual 255, 3) := by decide +kernel
theorem dL_law_2368 : decode cL_law 2368 = .ok (.istore 6, 2) := by decide +kernel
theorem dL_law_2370 : decode cL_law 2370 = .ok (.aload_n 2, 1) := by decide +kernel
theorem dL_law_2371 : decode cL_law 2371 = .ok (.invokevirtual 130, 3) := by decide +kernel
theorem dL_law_2374 : decode cL_law 2374 = .ok (.iload 5, 2) := by decide +kernel
theorem dL_law_2376 : decode cL_law 2376 = .ok (.if_icmp .eq 5, 3) := by decide +kernel
theorem dL_law_2379 : decode cL_law 2379 = .ok (.iconst 0, 1) := by decide +kernel
theorem dL_law_2380 : decode cL_law 2380 = .ok (.ireturn, 1) := by decide +kernel
theorem dL_law_2381 : decode cL_law 2381 = .ok (.iload 5, 2) := by decide +kernel
theorem dL_law_2383 : decode cL_law 2383 = .ok (.ifCond .ne 15, 3) := by decide +kernel
theorem dL_law_2386 : decode cL_law 2386 = .ok (.aload_n 3, 1) := by decide +kernel
theorem dL_law_2387 : decode cL_law 2387 = .ok (.iconst 0, 1) := by decide +kernel
theorem dL_law_2388 : decode cL_law 2388 = .ok (.laload, 1) := by decide +kernel
theorem dL_law_2389 : decode cL_law 2389 = .ok (.iload 6, 2) := by decide +kernel
theorem dL_law_2391 : decode cL_law 2391 = .ok (.i2l, 1) := by decide +kernel
theorem dL_law_2392 : decode cL_law 2392 = .ok (.lcmp, 1) := by decide +kernel
theorem dL_law_2393 : decode cL_law 2393 = .ok (.ifCond .eq 5, 3) := by decide +kernel
theorem dL_law_2396 : decode cL_law 2396 = .ok (.iconst 0, 1) := by decide +kernel
theorem dL_law_2397 : decode cL_law 2397 = .ok (.ireturn, 1) := by decide +kernel
theorem dL_law_2398 : decode cL_law 2398 = .ok (.goto 375, 3) := by decide +kernel
theorem dL_law_2401 : decode cL_law 2401 = .ok (.aload_n 1, 1) := by decide +kernel
theorem dL_law_2402 : decode cL_law 2402 = .ok (.aload_n 0, 1) := by decide +kernel
theorem dL_law_2403 : decode cL_law 2403 = .ok (.iload 4, 2) := by decide +kernel
theorem dL_law_2405 : decode cL_law 2405 = .ok (.iconst 1, 1) := by decide +kernel
theorem dL_law_2406 : decode cL_law 2406 = .ok (.iadd, 1) := by decide +kernel
theorem dL_law_2407 : decode cL_law 2407 = .ok (.iaload, 1) := by decide +kernel
theorem dL_law_2408 : decode cL_law 2408 = .ok (.aload_n 3, 1) := by decide +kernel
theorem dL_law_2409 : decode cL_law 2409 = .ok (.invokestatic 256, 3) := by decide +kernel
theorem dL_law_2412 : decode cL_law 2412 = .ok (.istore 5, 2) := by decide +kernel
theorem dL_law_2414 : decode cL_law 2414 = .ok (.aload_n 2, 1) := by decide +kernel
theorem dL_law_2415 : decode cL_law 2415 = .ok (.aload_n 0, 1) := by decide +kernel
theorem dL_law_2416 : decode cL_law 2416 = .ok (.iload 4, 2) := by decide +kernel
theorem dL_law_2418 : decode cL_law 2418 = .ok (.iconst 1, 1) := by decide +kernel
theorem dL_law_2419 : decode cL_law 2419 = .ok (.iadd, 1) := by decide +kernel
theorem dL_law_2420 : decode cL_law 2420 = .ok (.iaload, 1) := by decide +kernel
theorem dL_law_2421 : decode cL_law 2421 = .ok (.invokevirtual 258, 3) := by decide +kernel
theorem dL_law_2424 : decode cL_law 2424 = .ok (.istore 6, 2) := by decide +kernel
theorem dL_law_2426 : decode cL_law 2426 = .ok (.aload_n 2, 1) := by decide +kernel
theorem dL_law_2427 : decode cL_law 2427 = .ok (.invokevirtual 130, 3) := by decide +kernel
theorem dL_law_2430 : decode cL_law 2430 = .ok (.iload 5, 2) := by decide +kernel
theorem dL_law_2432 : decode cL_law 2432 = .ok (.if_icmp .eq 5, 3) := by decide +kernel
theorem dL_law_2435 : decode cL_law 2435 = .ok (.iconst 0, 1) := by decide +kernel
theorem dL_law_2436 : decode cL_law 2436 = .ok (.ireturn, 1) := by decide +kernel
theorem dL_law_2437 : decode cL_law 2437 = .ok (.iload 5, 2) := by decide +kernel
theorem dL_law_2439 : decode cL_law 2439 = .ok (.ifCond .ne 15, 3) := by decide +kernel
theorem dL_law_2442 : decode cL_law 2442 = .ok (.aload_n 3, 1) := by decide +kernel
theorem dL_law_2443 : decode cL_law 2443 = .ok (.iconst 0, 1) := by decide +kernel
theorem dL_law_2444 : decode cL_law 2444 = .ok (.laload, 1) := by decide +kernel
theorem dL_law_2445 : decode cL_law 2445 = .ok (.iload 6, 2) := by decide +kernel
theorem dL_law_2447 : decode cL_law 2447 = .ok (.i2l, 1) := by decide +kernel
theorem dL_law_2448 : decode cL_law 2448 = .ok (.lcmp, 1) := by decide +kernel
theorem dL_law_2449 : decode cL_law 2449 = .ok (.ifCond .eq 5, 3) := by decide +kernel
theorem dL_law_2452 : decode cL_law 2452 = .ok (.iconst 0, 1) := by decide +kernel
theorem dL_law_2453 : decode cL_law 2453 = .ok (.ireturn, 1) := by decide +kernel
theorem dL_law_2454 : decode cL_law 2454 = .ok (.goto 319, 3) := by decide +kernel
theorem dL_law_2457 : decode cL_law 2457 = .ok (.aload_n 1, 1) := by decide +kernel
theorem dL_law_2458 : decode cL_law 2458 = .ok (.aload_n 0, 1) := by decide +kernel
theorem dL_law_2459 : decode cL_law 2459 = .ok (.iload 4, 2) := by decide +kernel
theorem dL_law_2461 : decode cL_law 2461 = .ok (.iconst 1, 1) := by decide +kernel
theorem dL_law_2462 : decode cL_law 2462 = .ok (.iadd, 1) := by decide +kernel
theorem dL_law_2463 : decode cL_law 2463 = .ok (.iaload, 1) := by decide +kernel
theorem dL_law_2464 : decode cL_law 2464 = .ok (.aload_n 3, 1) := by decide +kernel
theorem dL_law_2465 : decode cL_law 2465 = .ok (.invokestatic 259, 3) := by decide +kernel
theorem dL_law_2468 : decode cL_law 2468 = .ok (.istore 5, 2) := by decide +kernel
theorem dL_law_2470 : decode cL_law 2470 = .ok (.aload_n 2, 1) := by decide +kernel
theorem dL_law_2471 : decode cL_law 2471 = .ok (.aload_n 0, 1) := by decide +kernel
theorem dL_law_2472 : decode cL_law 2472 = .ok (.iload 4, 2) := by decide +kernel
theorem dL_law_2474 : decode cL_law 2474 = .ok (.iconst 1, 1) := by decide +kernel
theorem dL_law_2475 : decode cL_law 2475 = .ok (.iadd, 1) := by decide +kernel
theorem dL_law_2476 : decode cL_law 2476 = .ok (.iaload, 1) := by decide +kernel
theorem dL_law_2477 : decode cL_law 2477 = .ok (.invokevirtual 261, 3) := by decide +kernel
theorem dL_law_2480 : decode cL_law 2480 = .ok (.istore 6, 2) := by decide +kernel
theorem dL_law_2482 : decode cL_law 2482 = .ok (.aload_n 2, 1) := by decide +kernel
theorem dL_law_2483 : decode cL_law 2483 = .ok (.invokevirtual 130, 3) := by decide +kernel
theorem dL_law_2486 : decode cL_law 2486 = .ok (.iload 5, 2) := by decide +kernel
theorem dL_law_2488 : decode cL_law 2488 = .ok (.if_icmp .eq 5, 3) := by decide +kernel
theorem dL_law_2491 : decode cL_law 2491 = .ok (.iconst 0, 1) := by decide +kernel
theorem dL_law_2492 : decode cL_law 2492 = .ok (.ireturn, 1) := by decide +kernel
theorem dL_law_2493 : decode cL_law 2493 = .ok (.iload 5, 2) := by decide +kernel
theorem dL_law_2495 : decode cL_law 2495 = .ok (.ifCond .ne 15, 3) := by decide +kernel
theorem dL_law_2498 : decode cL_law 2498 = .ok (.aload_n 3, 1) := by decide +kernel
theorem dL_law_2499 : decode cL_law 2499 = .ok (.iconst 0, 1) := by decide +kernel
theorem dL_law_2500 : decode cL_law 2500 = .ok (.laload, 1) := by decide +kernel
theorem dL_law_2501 : decode cL_law 2501 = .ok (.iload 6, 2) := by decide +kernel
theorem dL_law_2503 : decode cL_law 2503 = .ok (.i2l, 1) := by decide +kernel
theorem dL_law_2504 : decode cL_law 2504 = .ok (.lcmp, 1) := by decide +kernel
theorem dL_law_2505 : decode cL_law 2505 = .ok (.ifCond .eq 5, 3) := by decide +kernel
theorem dL_law_2508 : decode cL_law 2508 = .ok (.iconst 0, 1) := by decide +kernel
theorem dL_law_2509 : decode cL_law 2509 = .ok (.ireturn, 1) := by decide +kernel
theorem dL_law_2510 : decode cL_law 2510 = .ok (.goto 263, 3) := by decide +kernel
theorem dL_law_2513 : decode cL_law 2513 = .ok (.aload_n 1, 1) := by decide +kernel
theorem dL_law_2514 : decode cL_law 2514 = .ok (.aload_n 0, 1) := by decide +kernel
theorem dL_law_2515 : decode cL_law 2515 = .ok (.iload 4, 2) := by decide +kernel
theorem dL_law_2517 : decode cL_law 2517 = .ok (.iconst 1, 1) := by decide +kernel
theorem dL_law_2518 : decode cL_law 2518 = .ok (.iadd, 1) := by decide +kernel
theorem dL_law_2519 : decode cL_law 2519 = .ok (.iaload, 1) := by decide +kernel
theorem dL_law_2520 : decode cL_law 2520 = .ok (.aload_n 0, 1) := by decide +kernel
theorem dL_law_2521 : decode cL_law 2521 = .ok (.iload 4, 2) := by decide +kernel
theorem dL_law_2523 : decode cL_law 2523 = .ok (.iconst 2, 1) := by decide +kernel
theorem dL_law_2524 : decode cL_law 2524 = .ok (.iadd, 1) := by decide +kernel
theorem dL_law_2525 : decode cL_law 2525 = .ok (.iaload, 1) := by decide +kernel
theorem dL_law_2526 : decode cL_law 2526 = .ok (.ifCond .eq 7, 3) := by decide +kernel
theorem dL_law_2529 : decode cL_law 2529 = .ok (.iconst 1, 1) := by decide +kernel
theorem dL_law_2530 : decode cL_law 2530 = .ok (.goto 4, 3) := by decide +kernel
theorem dL_law_2533 : decode cL_law 2533 = .ok (.iconst 0, 1) := by decide +kernel
theorem dL_law_2534 : decode cL_law 2534 = .ok (.aload_n 3, 1) := by decide +kernel
theorem dL_law_2535 : decode cL_law 2535 = .ok (.invokestatic 262, 3) := by decide +kernel
theorem dL_law_2538 : decode cL_law 2538 = .ok (.istore 5, 2) := by decide +kernel
theorem dL_law_2540 : decode cL_law 2540 = .ok (.aload_n 2, 1) := by decide +kernel
theorem dL_law_2541 : decode cL_law 2541 = .ok (.aload_n 0, 1) := by decide +kernel
theorem dL_law_2542 : decode cL_law 2542 = .ok (.iload 4, 2) := by decide +kernel
theorem dL_law_2544 : decode cL_law 2544 = .ok (.iconst 1, 1) := by decide +kernel
theorem dL_law_2545 : decode cL_law 2545 = .ok (.iadd, 1) := by decide +kernel
theorem dL_law_2546 : decode cL_law 2546 = .ok (.iaload, 1) := by decide +kernel
theorem dL_law_2547 : decode cL_law 2547 = .ok (.aload_n 0, 1) := by decide +kernel
theorem dL_law_2548 : decode cL_law 2548 = .ok (.iload 4, 2) := by decide +kernel
theorem dL_law_2550 : decode cL_law 2550 = .ok (.iconst 2, 1) := by decide +kernel
theorem dL_law_2551 : decode cL_law 2551 = .ok (.iadd, 1) := by decide +kernel
theorem dL_law_2552 : decode cL_law 2552 = .ok (.iaload, 1) := by decide +kernel
theorem dL_law_2553 : decode cL_law 2553 = .ok (.ifCond .eq 7, 3) := by decide +kernel
theorem dL_law_2556 : decode cL_law 2556 = .ok (.iconst 1, 1) := by decide +kernel
theorem dL_law_2557 : decode cL_law 2557 = .ok (.goto 4, 3) := by decide +kernel
theorem dL_law_2560 : decode cL_law 2560 = .ok (.iconst 0, 1) := by decide +kernel
theorem dL_law_2561 : decode cL_law 2561 = .ok (.invokevirtual 265, 3) := by decide +kernel
theorem dL_law_2564 : decode cL_law 2564 = .ok (.istore 6, 2) := by decide +kernel
theorem dL_law_2566 : decode cL_law 2566 = .ok (.aload_n 2, 1) := by decide +kernel
theorem dL_law_2567 : decode cL_law 2567 = .ok (.invokevirtual 130, 3) := by decide +kernel
theorem dL_law_2570 : decode cL_law 2570 = .ok (.iload 5, 2) := by decide +kernel
theorem dL_law_2572 : decode cL_law 2572 = .ok (.if_icmp .eq 5, 3) := by decide +kernel
theorem dL_law_2575 : decode cL_law 2575 = .ok (.iconst 0, 1) := by decide +kernel
theorem dL_law_2576 : decode cL_law 2576 = .ok (.ireturn, 1) := by decide +kernel
theorem dL_law_2577 : decode cL_law 2577 = .ok (.iload 5, 2) := by decide +kernel
theorem dL_law_2579 : decode cL_law 2579 = .ok (.ifCond .ne 15, 3) := by decide +kernel
theorem dL_law_2582 : decode cL_law 2582 = .ok (.aload_n 3, 1) := by decide +kernel
theorem dL_law_2583 : decode cL_law 2583 = .ok (.iconst 0, 1) := by decide +kernel
theorem dL_law_2584 : decode cL_law 2584 = .ok (.laload, 1) := by decide +kernel
theorem dL_law_2585 : decode cL_law 2585 = .ok (.iload 6, 2) := by decide +kernel
theorem dL_law_2587 : decode cL_law 2587 = .ok (.i2l, 1) := by decide +kernel
theorem dL_law_2588 : decode cL_law 2588 = .ok (.lcmp, 1) := by decide +kernel
theorem dL_law_2589 : decode cL_law 2589 = .ok (.ifCond .eq 5, 3) := by decide +kernel
theorem dL_law_2592 : decode cL_law 2592 = .ok (.iconst 0, 1) := by decide +kernel
theorem dL_law_2593 : decode cL_law 2593 = .ok (.ireturn, 1) := by decide +kernel
theorem dL_law_2594 : decode cL_law 2594 = .ok (.goto 179, 3) := by decide +kernel
theorem dL_law_2597 : decode cL_law 2597 = .ok (.aload_n 1, 1) := by decide +kernel
theorem dL_law_2598 : decode cL_law 2598 = .ok (.aload_n 0, 1) := by decide +kernel
theorem dL_law_2599 : decode cL_law 2599 = .ok (.iload 4, 2) := by decide +kernel
theorem dL_law_2601 : decode cL_law 2601 = .ok (.iconst 1, 1) := by decide +kernel
theorem dL_law_2602 : decode cL_law 2602 = .ok (.iadd, 1) := by decide +kernel
theorem dL_law_2603 : decode cL_law 2603 = .ok (.iaload, 1) := by decide +kernel
theorem dL_law_2604 : decode cL_law 2604 = .ok (.aload_n 0, 1) := by decide +kernel
theorem dL_law_2605 : decode cL_law 2605 = .ok (.iload 4, 2) := by decide +kernel
theorem dL_law_2607 : decode cL_law 2607 = .ok (.iconst 2, 1) := by decide +kernel
theorem dL_law_2608 : decode cL_law 2608 = .ok (.iadd, 1) := by decide +kernel
theorem dL_law_2609 : decode cL_law 2609 = .ok (.iaload, 1) := by decide +kernel
theorem dL_law_2610 : decode cL_law 2610 = .ok (.ifCond .eq 7, 3) := by decide +kernel
theorem dL_law_2613 : decode cL_law 2613 = .ok (.iconst 1, 1) := by decide +kernel
theorem dL_law_2614 : decode cL_law 2614 = .ok (.goto 4, 3) := by decide +kernel
theorem dL_law_2617 : decode cL_law 2617 = .ok (.iconst 0, 1) := by decide +kernel
theorem dL_law_2618 : decode cL_law 2618 = .ok (.aload_n 0, 1) := by decide +kernel
theorem dL_law_2619 : decode cL_law 2619 = .ok (.iload 4, 2) := by decide +kernel
theorem dL_law_2621 : decode cL_law 2621 = .ok (.iconst 3, 1) := by decide +kernel
theorem dL_law_2622 : decode cL_law 2622 = .ok (.iadd, 1) := by decide +kernel
theorem dL_law_2623 : decode cL_law 2623 = .ok (.iaload, 1) := by decide +kernel
theorem dL_law_2624 : decode cL_law 2624 = .ok (.aload_n 3, 1) := by decide +kernel
theorem dL_law_2625 : decode cL_law 2625 = .ok (.invokestatic 266, 3) := by decide +kernel
theorem dL_law_2628 : decode cL_law 2628 = .ok (.istore 5, 2) := by decide +kernel
theorem dL_law_2630 : decode cL_law 2630 = .ok (.aload_n 2, 1) := by decide +kernel
theorem dL_law_2631 : decode cL_law 2631 = .ok (.aload_n 0, 1) := by decide +kernel
theorem dL_law_2632 : decode cL_law 2632 = .ok (.iload 4, 2) := by decide +kernel
theorem dL_law_2634 : decode cL_law 2634 = .ok (.iconst 1, 1) := by decide +kernel
theorem dL_law_2635 : decode cL_law 2635 = .ok (.iadd, 1) := by decide +kernel
theorem dL_law_2636 : decode cL_law 2636 = .ok (.iaload, 1) := by decide +kernel
theorem dL_law_2637 : decode cL_law 2637 = .ok (.aload_n 0, 1) := by decide +kernel
theorem dL_law_2638 : decode cL_law 2638 = .ok (.iload 4, 2) := by decide +kernel
theorem dL_law_2640 : decode cL_law 2640 = .ok (.iconst 2, 1) := by decide +kernel
theorem dL_law_2641 : decode cL_law 2641 = .ok (.iadd, 1) := by decide +kernel
theorem dL_law_2642 : decode cL_law 2642 = .ok (.iaload, 1) := by decide +kernel
theorem dL_law_2643 : decode cL_law 2643 = .ok (.ifCond .eq 7, 3) := by decide +kernel
theorem dL_law_2646 : decode cL_law 2646 = .ok (.iconst 1, 1) := by decide +kernel
theorem dL_law_2647 : decode cL_law 2647 = .ok (.goto 4, 3) := by decide +kernel
theorem dL_law_2650 : decode cL_law 2650 = .ok (.iconst 0, 1) := by decide +kernel
theorem dL_law_2651 : decode cL_law 2651 = .ok (.aload_n 0, 1) := by decide +kernel
theorem dL_law_2652 : decode cL_law 2652 = .ok (.iload 4, 2) := by decide +kernel
theorem dL_law_2654 : decode cL_law 2654 = .ok (.iconst 3, 1) := by decide +kernel
theorem dL_law_2655 : decode cL_law 2655 = .ok (.iadd, 1) := by decide +kernel
theorem dL_law_2656 : decode cL_law 2656 = .ok (.iaload, 1) := by decide +kernel
theorem dL_law_2657 : decode cL_law 2657 = .ok (.invokevirtual 268, 3) := by decide +kernel
theorem dL_law_2660 : decode cL_law 2660 = .ok (.istore 6, 2) := by decide +kernel
theorem dL_law_2662 : decode cL_law 2662 = .ok (.aload_n 2, 1) := by decide +kernel
theorem dL_law_2663 : decode cL_law 2663 = .ok (.invokevirtual 130, 3) := by decide +kernel
theorem dL_law_2666 : decode cL_law 2666 = .ok (.iload 5, 2) := by decide +kernel
theorem dL_law_2668 : decode cL_law 2668 = .ok (.if_icmp .eq 5, 3) := by decide +kernel
theorem dL_law_2671 : decode cL_law 2671 = .ok (.iconst 0, 1) := by decide +kernel
theorem dL_law_2672 : decode cL_law 2672 = .ok (.ireturn, 1) := by decide +kernel
theorem dL_law_2673 : decode cL_law 2673 = .ok (.iload 5, 2) := by decide +kernel
theorem dL_law_2675 : decode cL_law 2675 = .ok (.ifCond .ne 15, 3) := by decide +kernel
theorem dL_law_2678 : decode cL_law 2678 = .ok (.aload_n 3, 1) := by decide +kernel
theorem dL_law_2679 : decode cL_law 2679 = .ok (.iconst 0, 1) := by decide +kernel
theorem dL_law_2680 : decode cL_law 2680 = .ok (.laload, 1) := by decide +kernel
theorem dL_law_2681 : decode cL_law 2681 = .ok (.iload 6, 2) := by decide +kernel
theorem dL_law_2683 : decode cL_law 2683 = .ok (.i2l, 1) := by decide +kernel
theorem dL_law_2684 : decode cL_law 2684 = .ok (.lcmp, 1) := by decide +kernel
theorem dL_law_2685 : decode cL_law 2685 = .ok (.ifCond .eq 5, 3) := by decide +kernel
theorem dL_law_2688 : decode cL_law 2688 = .ok (.iconst 0, 1) := by decide +kernel
theorem dL_law_2689 : decode cL_law 2689 = .ok (.ireturn, 1) := by decide +kernel
theorem dL_law_2690 : decode cL_law 2690 = .ok (.goto 83, 3) := by decide +kernel
theorem dL_law_2693 : decode cL_law 2693 = .ok (.aload_n 1, 1) := by decide +kernel
theorem dL_law_2694 : decode cL_law 2694 = .ok (.aload_n 0, 1) := by decide +kernel
theorem dL_law_2695 : decode cL_law 2695 = .ok (.iload 4, 2) := by decide +kernel
theorem dL_law_2697 : decode cL_law 2697 = .ok (.iconst 1, 1) := by decide +kernel
theorem dL_law_2698 : decode cL_law 2698 = .ok (.iadd, 1) := by decide +kernel
theorem dL_law_2699 : decode cL_law 2699 = .ok (.iaload, 1) := by decide +kernel
theorem dL_law_2700 : decode cL_law 2700 = .ok (.aload_n 3, 1) := by decide +kernel
theorem dL_law_2701 : decode cL_law 2701 = .ok (.invokestatic 269, 3) := by decide +kernel
theorem dL_law_2704 : decode cL_law 2704 = .ok (.istore 5, 2) := by decide +kernel
theorem dL_law_2706 : decode cL_law 2706 = .ok (.aload_n 2, 1) := by decide +kernel
theorem dL_law_2707 : decode cL_law 2707 = .ok (.aload_n 0, 1) := by decide +kernel
theorem dL_law_2708 : decode cL_law 2708 = .ok (.iload 4, 2) := by decide +kernel
theorem dL_law_2710 : decode cL_law 2710 = .ok (.iconst 1, 1) := by decide +kernel
theorem dL_law_2711 : decode cL_law 2711 = .ok (.iadd, 1) := by decide +kernel
theorem dL_law_2712 : decode cL_law 2712 = .ok (.iaload, 1) := by decide +kernel
theorem dL_law_2713 : decode cL_law 2713 = .ok (.invokevirtual 271, 3) := by decide +kernel
theorem dL_law_2716 : decode cL_law 2716 = .ok (.istore 6, 2) := by decide +kernel
theorem dL_law_2718 : decode cL_law 2718 = .ok (.aload_n 2, 1) := by decide +kernel
theorem dL_law_2719 : decode cL_law 2719 = .ok (.invokevirtual 130, 3) := by decide +kernel
theorem dL_law_2722 : decode cL_law 2722 = .ok (.iload 5, 2) := by decide +kernel
theorem dL_law_2724 : decode cL_law 2724 = .ok (.if_icmp .eq 5, 3) := by decide +kernel
theorem dL_law_2727 : decode cL_law 2727 = .ok (.iconst 0, 1) := by decide +kernel
theorem dL_law_2728 : decode cL_law 2728 = .ok (.ireturn, 1) := by decide +kernel
theorem dL_law_2729 : decode cL_law 2729 = .ok (.iload 5, 2) := by decide +kernel
theorem dL_law_2731 : decode cL_law 2731 = .ok (.ifCond .ne 15, 3) := by decide +kernel
theorem dL_law_2734 : decode cL_law 2734 = .ok (.aload_n 3, 1) := by decide +kernel
theorem dL_law_2735 : decode cL_law 2735 = .ok (.iconst 0, 1) := by decide +kernel
theorem dL_law_2736 : decode cL_law 2736 = .ok (.laload, 1) := by decide +kernel
theorem dL_law_2737 : decode cL_law 2737 = .ok (.iload 6, 2) := by decide +kernel
theorem dL_law_2739 : decode cL_law 2739 = .ok (.i2l, 1) := by decide +kernel
theorem dL_law_2740 : decode cL_law 2740 = .ok (.lcmp, 1) := by decide +kernel
theorem dL_law_2741 : decode cL_law 2741 = .ok (.ifCond .eq 5, 3) := by decide +kernel
theorem dL_law_2744 : decode cL_law 2744 = .ok (.iconst 0, 1) := by decide +kernel
theorem dL_law_2745 : decode cL_law 2745 = .ok (.ireturn, 1) := by decide +kernel
theorem dL_law_2746 : decode cL_law 2746 = .ok (.goto 27, 3) := by decide +kernel
theorem dL_law_2749 : decode cL_law 2749 = .ok (.aload_n 1, 1) := by decide +kernel
theorem dL_law_2750 : decode cL_law 2750 = .ok (.invokevirtual 272, 3) := by decide +kernel
theorem dL_law_2753 : decode cL_law 2753 = .ok (.aload_n 2, 1) := by decide +kernel
theorem dL_law_2754 : decode cL_law 2754 = .ok (.invokevirtual 275, 3) := by decide +kernel
theorem dL_law_2757 : decode cL_law 2757 = .ok (.goto 16, 3) := by decide +kernel
theorem dL_law_2760 : decode cL_law 2760 = .ok (.aload_n 1, 1) := by decide +kernel
theorem dL_law_2761 : decode cL_law 2761 = .ok (.invokevirtual 276, 3) := by decide +kernel
theorem dL_law_2764 : decode cL_law 2764 = .ok (.aload_n 2, 1) := by decide +kernel
theorem dL_law_2765 : decode cL_law 2765 = .ok (.invokevirtual 280, 3) := by decide +kernel
theorem dL_law_2768 : decode cL_law 2768 = .ok (.if_icmp .eq 5, 3) := by decide +kernel
theorem dL_law_2771 : decode cL_law 2771 = .ok (.iconst 0, 1) := by decide +kernel
theorem dL_law_2772 : decode cL_law 2772 = .ok (.ireturn, 1) := by decide +kernel
theorem dL_law_2773 : decode cL_law 2773 = .ok (.iinc 4 6, 3) := by decide +kernel
theorem dL_law_2776 : decode cL_law 2776 = .ok (.goto (-2753), 3) := by decide +kernel
theorem dL_law_2779 : decode cL_law 2779 = .ok (.iconst 1, 1) := by decide +kernel
theorem dL_law_2780 : decode cL_law 2780 = .ok (.ireturn, 1) := by decide +kernel
