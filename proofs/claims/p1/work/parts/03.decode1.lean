theorem dL_law_2140 : decode cL_law 2140 = .ok (.aload_n 2, 1) := by decide +kernel
theorem dL_law_2141 : decode cL_law 2141 = .ok (.invokevirtual 130, 3) := by decide +kernel
theorem dL_law_2144 : decode cL_law 2144 = .ok (.iload 5, 2) := by decide +kernel
theorem dL_law_2146 : decode cL_law 2146 = .ok (.if_icmp .eq 5, 3) := by decide +kernel
theorem dL_law_2151 : decode cL_law 2151 = .ok (.iload 5, 2) := by decide +kernel
theorem dL_law_2153 : decode cL_law 2153 = .ok (.ifCond .ne 15, 3) := by decide +kernel
theorem dL_law_2168 : decode cL_law 2168 = .ok (.goto 331, 3) := by decide +kernel
theorem dL_law_2171 : decode cL_law 2171 = .ok (.aload_n 1, 1) := by decide +kernel
theorem dL_law_2172 : decode cL_law 2172 = .ok (.invokevirtual 240, 3) := by decide +kernel
theorem dL_law_2175 : decode cL_law 2175 = .ok (.aload_n 2, 1) := by decide +kernel
theorem dL_law_2176 : decode cL_law 2176 = .ok (.invokevirtual 243, 3) := by decide +kernel
theorem dL_law_2179 : decode cL_law 2179 = .ok (.if_icmp .eq 320, 3) := by decide +kernel
theorem dL_law_2184 : decode cL_law 2184 = .ok (.aload_n 1, 1) := by decide +kernel
theorem dL_law_2185 : decode cL_law 2185 = .ok (.invokevirtual 244, 3) := by decide +kernel
theorem dL_law_2188 : decode cL_law 2188 = .ok (.dstore 5, 2) := by decide +kernel
theorem dL_law_2190 : decode cL_law 2190 = .ok (.aload_n 2, 1) := by decide +kernel
theorem dL_law_2191 : decode cL_law 2191 = .ok (.invokevirtual 248, 3) := by decide +kernel
theorem dL_law_2194 : decode cL_law 2194 = .ok (.dstore 7, 2) := by decide +kernel
theorem dL_law_2196 : decode cL_law 2196 = .ok (.dload 5, 2) := by decide +kernel
theorem dL_law_2198 : decode cL_law 2198 = .ok (.dload 7, 2) := by decide +kernel
theorem dL_law_2200 : decode cL_law 2200 = .ok (.dcmp .l, 1) := by decide +kernel
theorem dL_law_2201 : decode cL_law 2201 = .ok (.ifCond .eq 21, 3) := by decide +kernel
theorem dL_law_2222 : decode cL_law 2222 = .ok (.goto 277, 3) := by decide +kernel
theorem dL_law_2225 : decode cL_law 2225 = .ok (.aload_n 1, 1) := by decide +kernel
theorem dL_law_2226 : decode cL_law 2226 = .ok (.aload_n 0, 1) := by decide +kernel
theorem dL_law_2227 : decode cL_law 2227 = .ok (.iload 4, 2) := by decide +kernel
theorem dL_law_2229 : decode cL_law 2229 = .ok (.iconst 1, 1) := by decide +kernel
theorem dL_law_2230 : decode cL_law 2230 = .ok (.iadd, 1) := by decide +kernel
theorem dL_law_2231 : decode cL_law 2231 = .ok (.iaload, 1) := by decide +kernel
theorem dL_law_2232 : decode cL_law 2232 = .ok (.aload_n 0, 1) := by decide +kernel
theorem dL_law_2233 : decode cL_law 2233 = .ok (.iload 4, 2) := by decide +kernel
theorem dL_law_2235 : decode cL_law 2235 = .ok (.iconst 2, 1) := by decide +kernel
theorem dL_law_2236 : decode cL_law 2236 = .ok (.iadd, 1) := by decide +kernel
theorem dL_law_2237 : decode cL_law 2237 = .ok (.iaload, 1) := by decide +kernel
theorem dL_law_2238 : decode cL_law 2238 = .ok (.aload_n 3, 1) := by decide +kernel
theorem dL_law_2239 : decode cL_law 2239 = .ok (.invokestatic 249, 3) := by decide +kernel
theorem dL_law_2242 : decode cL_law 2242 = .ok (.istore 5, 2) := by decide +kernel
theorem dL_law_2244 : decode cL_law 2244 = .ok (.aload_n 2, 1) := by decide +kernel
theorem dL_law_2245 : decode cL_law 2245 = .ok (.aload_n 0, 1) := by decide +kernel
theorem dL_law_2246 : decode cL_law 2246 = .ok (.iload 4, 2) := by decide +kernel
theorem dL_law_2248 : decode cL_law 2248 = .ok (.iconst 1, 1) := by decide +kernel
theorem dL_law_2249 : decode cL_law 2249 = .ok (.iadd, 1) := by decide +kernel
theorem dL_law_2250 : decode cL_law 2250 = .ok (.iaload, 1) := by decide +kernel
theorem dL_law_2251 : decode cL_law 2251 = .ok (.aload_n 0, 1) := by decide +kernel
theorem dL_law_2252 : decode cL_law 2252 = .ok (.iload 4, 2) := by decide +kernel
theorem dL_law_2254 : decode cL_law 2254 = .ok (.iconst 2, 1) := by decide +kernel
theorem dL_law_2255 : decode cL_law 2255 = .ok (.iadd, 1) := by decide +kernel
theorem dL_law_2256 : decode cL_law 2256 = .ok (.iaload, 1) := by decide +kernel
theorem dL_law_2257 : decode cL_law 2257 = .ok (.invokevirtual 251, 3) := by decide +kernel
theorem dL_law_2260 : decode cL_law 2260 = .ok (.istore 6, 2) := by decide +kernel
theorem dL_law_2262 : decode cL_law 2262 = .ok (.aload_n 2, 1) := by decide +kernel
theorem dL_law_2263 : decode cL_law 2263 = .ok (.invokevirtual 130, 3) := by decide +kernel
theorem dL_law_2266 : decode cL_law 2266 = .ok (.iload 5, 2) := by decide +kernel
theorem dL_law_2268 : decode cL_law 2268 = .ok (.if_icmp .eq 5, 3) := by decide +kernel
theorem dL_law_2273 : decode cL_law 2273 = .ok (.iload 5, 2) := by decide +kernel
theorem dL_law_2275 : decode cL_law 2275 = .ok (.ifCond .ne 15, 3) := by decide +kernel
theorem dL_law_2290 : decode cL_law 2290 = .ok (.goto 209, 3) := by decide +kernel
theorem dL_law_2293 : decode cL_law 2293 = .ok (.aload_n 1, 1) := by decide +kernel
theorem dL_law_2294 : decode cL_law 2294 = .ok (.aload_n 0, 1) := by decide +kernel
theorem dL_law_2295 : decode cL_law 2295 = .ok (.iload 4, 2) := by decide +kernel
theorem dL_law_2297 : decode cL_law 2297 = .ok (.iconst 1, 1) := by decide +kernel
theorem dL_law_2298 : decode cL_law 2298 = .ok (.iadd, 1) := by decide +kernel
theorem dL_law_2299 : decode cL_law 2299 = .ok (.iaload, 1) := by decide +kernel
theorem dL_law_2300 : decode cL_law 2300 = .ok (.aload_n 3, 1) := by decide +kernel
theorem dL_law_2301 : decode cL_law 2301 = .ok (.invokestatic 252, 3) := by decide +kernel
theorem dL_law_2304 : decode cL_law 2304 = .ok (.istore 5, 2) := by decide +kernel
theorem dL_law_2306 : decode cL_law 2306 = .ok (.aload_n 2, 1) := by decide +kernel
theorem dL_law_2307 : decode cL_law 2307 = .ok (.aload_n 0, 1) := by decide +kernel
theorem dL_law_2308 : decode cL_law 2308 = .ok (.iload 4, 2) := by decide +kernel
theorem dL_law_2310 : decode cL_law 2310 = .ok (.iconst 1, 1) := by decide +kernel
theorem dL_law_2311 : decode cL_law 2311 = .ok (.iadd, 1) := by decide +kernel
theorem dL_law_2312 : decode cL_law 2312 = .ok (.iaload, 1) := by decide +kernel
theorem dL_law_2313 : decode cL_law 2313 = .ok (.invokevirtual 254, 3) := by decide +kernel
theorem dL_law_2316 : decode cL_law 2316 = .ok (.istore 6, 2) := by decide +kernel
theorem dL_law_2318 : decode cL_law 2318 = .ok (.aload_n 2, 1) := by decide +kernel
theorem dL_law_2319 : decode cL_law 2319 = .ok (.invokevirtual 130, 3) := by decide +kernel
theorem dL_law_2322 : decode cL_law 2322 = .ok (.iload 5, 2) := by decide +kernel
theorem dL_law_2324 : decode cL_law 2324 = .ok (.if_icmp .eq 5, 3) := by decide +kernel
theorem dL_law_2329 : decode cL_law 2329 = .ok (.iload 5, 2) := by decide +kernel
theorem dL_law_2331 : decode cL_law 2331 = .ok (.ifCond .ne 15, 3) := by decide +kernel
theorem dL_law_2334 : decode cL_law 2334 = .ok (.aload_n 3, 1) := by decide +kernel
theorem dL_law_2335 : decode cL_law 2335 = .ok (.iconst 0, 1) := by decide +kernel
theorem dL_law_2336 : decode cL_law 2336 = .ok (.laload, 1) := by decide +kernel
theorem dL_law_2337 : decode cL_law 2337 = .ok (.iload 6, 2) := by decide +kernel
theorem dL_law_2339 : decode cL_law 2339 = .ok (.i2l, 1) := by decide +kernel
theorem dL_law_2340 : decode cL_law 2340 = .ok (.lcmp, 1) := by decide +kernel
theorem dL_law_2341 : decode cL_law 2341 = .ok (.ifCond .eq 5, 3) := by decide +kernel
theorem dL_law_2346 : decode cL_law 2346 = .ok (.goto 153, 3) := by decide +kernel
theorem dL_law_2349 : decode cL_law 2349 = .ok (.aload_n 1, 1) := by decide +kernel
theorem dL_law_2350 : decode cL_law 2350 = .ok (.aload_n 0, 1) := by decide +kernel
theorem dL_law_2351 : decode cL_law 2351 = .ok (.iload 4, 2) := by decide +kernel
theorem dL_law_2353 : decode cL_law 2353 = .ok (.iconst 1, 1) := by decide +kernel
theorem dL_law_2354 : decode cL_law 2354 = .ok (.iadd, 1) := by decide +kernel
theorem dL_law_2355 : decode cL_law 2355 = .ok (.iaload, 1) := by decide +kernel
theorem dL_law_2356 : decode cL_law 2356 = .ok (.aload_n 0, 1) := by decide +kernel
theorem dL_law_2357 : decode cL_law 2357 = .ok (.iload 4, 2) := by decide +kernel
theorem dL_law_2359 : decode cL_law 2359 = .ok (.iconst 2, 1) := by decide +kernel
theorem dL_law_2360 : decode cL_law 2360 = .ok (.iadd, 1) := by decide +kernel
theorem dL_law_2361 : decode cL_law 2361 = .ok (.iaload, 1) := by decide +kernel
theorem dL_law_2362 : decode cL_law 2362 = .ok (.aload_n 0, 1) := by decide +kernel
theorem dL_law_2363 : decode cL_law 2363 = .ok (.iload 4, 2) := by decide +kernel
theorem dL_law_2365 : decode cL_law 2365 = .ok (.iconst 3, 1) := by decide +kernel
theorem dL_law_2366 : decode cL_law 2366 = .ok (.iadd, 1) := by decide +kernel
theorem dL_law_2367 : decode cL_law 2367 = .ok (.iaload, 1) := by decide +kernel
theorem dL_law_2368 : decode cL_law 2368 = .ok (.aload_n 3, 1) := by decide +kernel
theorem dL_law_2369 : decode cL_law 2369 = .ok (.invokestatic 255, 3) := by decide +kernel
theorem dL_law_2372 : decode cL_law 2372 = .ok (.istore 5, 2) := by decide +kernel
theorem dL_law_2374 : decode cL_law 2374 = .ok (.aload_n 2, 1) := by decide +kernel
theorem dL_law_2375 : decode cL_law 2375 = .ok (.aload_n 0, 1) := by decide +kernel
theorem dL_law_2376 : decode cL_law 2376 = .ok (.iload 4, 2) := by decide +kernel
theorem dL_law_2378 : decode cL_law 2378 = .ok (.iconst 1, 1) := by decide +kernel
theorem dL_law_2379 : decode cL_law 2379 = .ok (.iadd, 1) := by decide +kernel
theorem dL_law_2380 : decode cL_law 2380 = .ok (.iaload, 1) := by decide +kernel
theorem dL_law_2381 : decode cL_law 2381 = .ok (.aload_n 0, 1) := by decide +kernel
theorem dL_law_2382 : decode cL_law 2382 = .ok (.iload 4, 2) := by decide +kernel
theorem dL_law_2384 : decode cL_law 2384 = .ok (.iconst 2, 1) := by decide +kernel
theorem dL_law_2385 : decode cL_law 2385 = .ok (.iadd, 1) := by decide +kernel
theorem dL_law_2386 : decode cL_law 2386 = .ok (.iaload, 1) := by decide +kernel
theorem dL_law_2387 : decode cL_law 2387 = .ok (.aload_n 0, 1) := by decide +kernel
theorem dL_law_2388 : decode cL_law 2388 = .ok (.iload 4, 2) := by decide +kernel
theorem dL_law_2390 : decode cL_law 2390 = .ok (.iconst 3, 1) := by decide +kernel
theorem dL_law_2391 : decode cL_law 2391 = .ok (.iadd, 1) := by decide +kernel
theorem dL_law_2392 : decode cL_law 2392 = .ok (.iaload, 1) := by decide +kernel
theorem dL_law_2393 : decode cL_law 2393 = .ok (.invokevirtual 258, 3) := by decide +kernel
theorem dL_law_2396 : decode cL_law 2396 = .ok (.istore 6, 2) := by decide +kernel
theorem dL_law_2398 : decode cL_law 2398 = .ok (.aload_n 2, 1) := by decide +kernel
theorem dL_law_2399 : decode cL_law 2399 = .ok (.invokevirtual 130, 3) := by decide +kernel
theorem dL_law_2402 : decode cL_law 2402 = .ok (.iload 5, 2) := by decide +kernel
theorem dL_law_2404 : decode cL_law 2404 = .ok (.if_icmp .eq 5, 3) := by decide +kernel
theorem dL_law_2409 : decode cL_law 2409 = .ok (.iload 5, 2) := by decide +kernel
theorem dL_law_2411 : decode cL_law 2411 = .ok (.ifCond .ne 15, 3) := by decide +kernel
theorem dL_law_2426 : decode cL_law 2426 = .ok (.goto 73, 3) := by decide +kernel
theorem dL_law_2429 : decode cL_law 2429 = .ok (.aload_n 1, 1) := by decide +kernel
theorem dL_law_2430 : decode cL_law 2430 = .ok (.aload_n 0, 1) := by decide +kernel
theorem dL_law_2431 : decode cL_law 2431 = .ok (.iload 4, 2) := by decide +kernel
theorem dL_law_2433 : decode cL_law 2433 = .ok (.iconst 1, 1) := by decide +kernel
theorem dL_law_2434 : decode cL_law 2434 = .ok (.iadd, 1) := by decide +kernel
theorem dL_law_2435 : decode cL_law 2435 = .ok (.iaload, 1) := by decide +kernel
theorem dL_law_2436 : decode cL_law 2436 = .ok (.aload_n 3, 1) := by decide +kernel
theorem dL_law_2437 : decode cL_law 2437 = .ok (.invokestatic 259, 3) := by decide +kernel
theorem dL_law_2440 : decode cL_law 2440 = .ok (.istore 5, 2) := by decide +kernel
theorem dL_law_2442 : decode cL_law 2442 = .ok (.aload_n 2, 1) := by decide +kernel
theorem dL_law_2443 : decode cL_law 2443 = .ok (.aload_n 0, 1) := by decide +kernel
theorem dL_law_2444 : decode cL_law 2444 = .ok (.iload 4, 2) := by decide +kernel
theorem dL_law_2446 : decode cL_law 2446 = .ok (.iconst 1, 1) := by decide +kernel
theorem dL_law_2447 : decode cL_law 2447 = .ok (.iadd, 1) := by decide +kernel
theorem dL_law_2448 : decode cL_law 2448 = .ok (.iaload, 1) := by decide +kernel
theorem dL_law_2449 : decode cL_law 2449 = .ok (.invokevirtual 261, 3) := by decide +kernel
theorem dL_law_2452 : decode cL_law 2452 = .ok (.istore 6, 2) := by decide +kernel
theorem dL_law_2454 : decode cL_law 2454 = .ok (.aload_n 2, 1) := by decide +kernel
theorem dL_law_2455 : decode cL_law 2455 = .ok (.invokevirtual 130, 3) := by decide +kernel
theorem dL_law_2458 : decode cL_law 2458 = .ok (.iload 5, 2) := by decide +kernel
theorem dL_law_2460 : decode cL_law 2460 = .ok (.if_icmp .eq 5, 3) := by decide +kernel
theorem dL_law_2465 : decode cL_law 2465 = .ok (.iload 5, 2) := by decide +kernel
theorem dL_law_2467 : decode cL_law 2467 = .ok (.ifCond .ne 15, 3) := by decide +kernel
theorem dL_law_2482 : decode cL_law 2482 = .ok (.goto 17, 3) := by decide +kernel
theorem dL_law_2485 : decode cL_law 2485 = .ok (.aload_n 1, 1) := by decide +kernel
theorem dL_law_2486 : decode cL_law 2486 = .ok (.invokevirtual 262, 3) := by decide +kernel
theorem dL_law_2489 : decode cL_law 2489 = .ok (.aload_n 2, 1) := by decide +kernel
theorem dL_law_2490 : decode cL_law 2490 = .ok (.invokevirtual 266, 3) := by decide +kernel
theorem dL_law_2493 : decode cL_law 2493 = .ok (.lcmp, 1) := by decide +kernel
theorem dL_law_2494 : decode cL_law 2494 = .ok (.ifCond .eq 5, 3) := by decide +kernel
theorem dL_law_2499 : decode cL_law 2499 = .ok (.iinc 4 7, 3) := by decide +kernel
theorem dL_law_2502 : decode cL_law 2502 = .ok (.goto (-2479), 3) := by decide +kernel
theorem dL_law_2505 : decode cL_law 2505 = .ok (.iconst 1, 1) := by decide +kernel
theorem dL_law_2506 : decode cL_law 2506 = .ok (.ireturn, 1) := by decide +kernel
theorem dX0_init_0 : decode cX0_init 0 = .ok (.aload_n 0, 1) := by decide +kernel
theorem dX0_init_1 : decode cX0_init 1 = .ok (.invokespecial 3, 3) := by decide +kernel
theorem dX0_init_4 : decode cX0_init 4 = .ok (.aload_n 0, 1) := by decide +kernel
theorem dX0_init_5 : decode cX0_init 5 = .ok (.bipush 12, 2) := by decide +kernel
theorem dX0_init_7 : decode cX0_init 7 = .ok (.newarray .int, 2) := by decide +kernel
theorem dX0_init_9 : decode cX0_init 9 = .ok (.putfield 9, 3) := by decide +kernel
theorem dX0_init_12 : decode cX0_init 12 = .ok (.aload_n 0, 1) := by decide +kernel
theorem dX0_init_13 : decode cX0_init 13 = .ok (.bipush 12, 2) := by decide +kernel
theorem dX0_init_15 : decode cX0_init 15 = .ok (.newarray .int, 2) := by decide +kernel
theorem dX0_init_17 : decode cX0_init 17 = .ok (.putfield 15, 3) := by decide +kernel
theorem dX0_init_20 : decode cX0_init 20 = .ok (.aload_n 0, 1) := by decide +kernel
theorem dX0_init_21 : decode cX0_init 21 = .ok (.sipush 144, 3) := by decide +kernel
theorem dX0_init_24 : decode cX0_init 24 = .ok (.newarray .int, 2) := by decide +kernel
theorem dX0_init_26 : decode cX0_init 26 = .ok (.putfield 18, 3) := by decide +kernel
theorem dX0_init_29 : decode cX0_init 29 = .ok (.aload_n 0, 1) := by decide +kernel
theorem dX0_init_30 : decode cX0_init 30 = .ok (.bipush 9, 2) := by decide +kernel
theorem dX0_init_32 : decode cX0_init 32 = .ok (.newarray .int, 2) := by decide +kernel
theorem dX0_init_34 : decode cX0_init 34 = .ok (.putfield 21, 3) := by decide +kernel
theorem dX0_init_37 : decode cX0_init 37 = .ok (.aload_n 0, 1) := by decide +kernel
theorem dX0_init_38 : decode cX0_init 38 = .ok (.bipush 18, 2) := by decide +kernel
theorem dX0_init_40 : decode cX0_init 40 = .ok (.newarray .int, 2) := by decide +kernel
theorem dX0_init_42 : decode cX0_init 42 = .ok (.putfield 24, 3) := by decide +kernel
theorem dX0_init_45 : decode cX0_init 45 = .ok (.aload_n 0, 1) := by decide +kernel
theorem dX0_init_46 : decode cX0_init 46 = .ok (.bipush 18, 2) := by decide +kernel
theorem dX0_init_48 : decode cX0_init 48 = .ok (.newarray .int, 2) := by decide +kernel
theorem dX0_init_50 : decode cX0_init 50 = .ok (.putfield 27, 3) := by decide +kernel
theorem dX0_init_53 : decode cX0_init 53 = .ok (.aload_n 0, 1) := by decide +kernel
theorem dX0_init_54 : decode cX0_init 54 = .ok (.bipush 18, 2) := by decide +kernel
theorem dX0_init_56 : decode cX0_init 56 = .ok (.newarray .int, 2) := by decide +kernel
theorem dX0_init_58 : decode cX0_init 58 = .ok (.putfield 30, 3) := by decide +kernel
theorem dX0_init_61 : decode cX0_init 61 = .ok (.aload_n 0, 1) := by decide +kernel
theorem dX0_init_62 : decode cX0_init 62 = .ok (.bipush 18, 2) := by decide +kernel
theorem dX0_init_64 : decode cX0_init 64 = .ok (.newarray .int, 2) := by decide +kernel
theorem dX0_init_66 : decode cX0_init 66 = .ok (.putfield 33, 3) := by decide +kernel
theorem dX0_init_69 : decode cX0_init 69 = .ok (.aload_n 0, 1) := by decide +kernel
theorem dX0_init_70 : decode cX0_init 70 = .ok (.bipush 18, 2) := by decide +kernel
theorem dX0_init_72 : decode cX0_init 72 = .ok (.newarray .int, 2) := by decide +kernel
theorem dX0_init_74 : decode cX0_init 74 = .ok (.putfield 36, 3) := by decide +kernel
theorem dX0_init_77 : decode cX0_init 77 = .ok (.return_, 1) := by decide +kernel
theorem dX0_isPlace_0 : decode cX0_isPlace 0 = .ok (.iload_n 1, 1) := by decide +kernel
theorem dX0_isPlace_1 : decode cX0_isPlace 1 = .ok (.ifCond .lt 15, 3) := by decide +kernel
theorem dX0_isPlace_4 : decode cX0_isPlace 4 = .ok (.iload_n 1, 1) := by decide +kernel
theorem dX0_isPlace_5 : decode cX0_isPlace 5 = .ok (.aload_n 0, 1) := by decide +kernel
theorem dX0_isPlace_6 : decode cX0_isPlace 6 = .ok (.getfield 39, 3) := by decide +kernel
theorem dX0_isPlace_9 : decode cX0_isPlace 9 = .ok (.if_icmp .ge 7, 3) := by decide +kernel
theorem dX0_isPlace_16 : decode cX0_isPlace 16 = .ok (.iconst 0, 1) := by decide +kernel
theorem dX0_isPlace_17 : decode cX0_isPlace 17 = .ok (.ireturn, 1) := by decide +kernel
theorem dX0_tellPlace_0 : decode cX0_tellPlace 0 = .ok (.aload_n 0, 1) := by decide +kernel
theorem dX0_tellPlace_1 : decode cX0_tellPlace 1 = .ok (.getfield 39, 3) := by decide +kernel
theorem dX0_tellPlace_4 : decode cX0_tellPlace 4 = .ok (.istore_n 3, 1) := by decide +kernel
theorem dX0_tellPlace_5 : decode cX0_tellPlace 5 = .ok (.iload_n 3, 1) := by decide +kernel
theorem dX0_tellPlace_6 : decode cX0_tellPlace 6 = .ok (.bipush 12, 2) := by decide +kernel
theorem dX0_tellPlace_8 : decode cX0_tellPlace 8 = .ok (.if_icmp .lt 5, 3) := by decide +kernel
theorem dX0_tellPlace_13 : decode cX0_tellPlace 13 = .ok (.aload_n 0, 1) := by decide +kernel
theorem dX0_tellPlace_14 : decode cX0_tellPlace 14 = .ok (.getfield 9, 3) := by decide +kernel
theorem dX0_tellPlace_17 : decode cX0_tellPlace 17 = .ok (.iload_n 3, 1) := by decide +kernel
theorem dX0_tellPlace_18 : decode cX0_tellPlace 18 = .ok (.iload_n 1, 1) := by decide +kernel
theorem dX0_tellPlace_19 : decode cX0_tellPlace 19 = .ok (.iastore, 1) := by decide +kernel
theorem dX0_tellPlace_20 : decode cX0_tellPlace 20 = .ok (.aload_n 0, 1) := by decide +kernel
theorem dX0_tellPlace_21 : decode cX0_tellPlace 21 = .ok (.getfield 15, 3) := by decide +kernel
theorem dX0_tellPlace_24 : decode cX0_tellPlace 24 = .ok (.iload_n 3, 1) := by decide +kernel
theorem dX0_tellPlace_25 : decode cX0_tellPlace 25 = .ok (.iload_n 2, 1) := by decide +kernel
theorem dX0_tellPlace_26 : decode cX0_tellPlace 26 = .ok (.iastore, 1) := by decide +kernel
theorem dX0_tellPlace_27 : decode cX0_tellPlace 27 = .ok (.iconst 0, 1) := by decide +kernel
theorem dX0_tellPlace_28 : decode cX0_tellPlace 28 = .ok (.istore 4, 2) := by decide +kernel
theorem dX0_tellPlace_30 : decode cX0_tellPlace 30 = .ok (.iload 4, 2) := by decide +kernel
theorem dX0_tellPlace_32 : decode cX0_tellPlace 32 = .ok (.iload_n 3, 1) := by decide +kernel
theorem dX0_tellPlace_33 : decode cX0_tellPlace 33 = .ok (.if_icmp .gt 64, 3) := by decide +kernel
theorem dX0_tellPlace_36 : decode cX0_tellPlace 36 = .ok (.aload_n 0, 1) := by decide +kernel
theorem dX0_tellPlace_37 : decode cX0_tellPlace 37 = .ok (.getfield 9, 3) := by decide +kernel
theorem dX0_tellPlace_40 : decode cX0_tellPlace 40 = .ok (.iload 4, 2) := by decide +kernel
theorem dX0_tellPlace_42 : decode cX0_tellPlace 42 = .ok (.iaload, 1) := by decide +kernel
theorem dX0_tellPlace_43 : decode cX0_tellPlace 43 = .ok (.iload_n 1, 1) := by decide +kernel
theorem dX0_tellPlace_44 : decode cX0_tellPlace 44 = .ok (.isub, 1) := by decide +kernel
theorem dX0_tellPlace_45 : decode cX0_tellPlace 45 = .ok (.invokestatic 46, 3) := by decide +kernel
theorem dX0_tellPlace_48 : decode cX0_tellPlace 48 = .ok (.aload_n 0, 1) := by decide +kernel
theorem dX0_tellPlace_49 : decode cX0_tellPlace 49 = .ok (.getfield 15, 3) := by decide +kernel
theorem dX0_tellPlace_52 : decode cX0_tellPlace 52 = .ok (.iload 4, 2) := by decide +kernel
theorem dX0_tellPlace_54 : decode cX0_tellPlace 54 = .ok (.iaload, 1) := by decide +kernel
theorem dX0_tellPlace_55 : decode cX0_tellPlace 55 = .ok (.iload_n 2, 1) := by decide +kernel
theorem dX0_tellPlace_56 : decode cX0_tellPlace 56 = .ok (.isub, 1) := by decide +kernel
theorem dX0_tellPlace_57 : decode cX0_tellPlace 57 = .ok (.invokestatic 46, 3) := by decide +kernel
theorem dX0_tellPlace_60 : decode cX0_tellPlace 60 = .ok (.iadd, 1) := by decide +kernel
theorem dX0_tellPlace_61 : decode cX0_tellPlace 61 = .ok (.istore 5, 2) := by decide +kernel
theorem dX0_tellPlace_63 : decode cX0_tellPlace 63 = .ok (.aload_n 0, 1) := by decide +kernel
theorem dX0_tellPlace_64 : decode cX0_tellPlace 64 = .ok (.getfield 18, 3) := by decide +kernel
theorem dX0_tellPlace_67 : decode cX0_tellPlace 67 = .ok (.iload 4, 2) := by decide +kernel
theorem dX0_tellPlace_69 : decode cX0_tellPlace 69 = .ok (.bipush 12, 2) := by decide +kernel
theorem dX0_tellPlace_71 : decode cX0_tellPlace 71 = .ok (.imul, 1) := by decide +kernel
theorem dX0_tellPlace_72 : decode cX0_tellPlace 72 = .ok (.iload_n 3, 1) := by decide +kernel
theorem dX0_tellPlace_73 : decode cX0_tellPlace 73 = .ok (.iadd, 1) := by decide +kernel
theorem dX0_tellPlace_74 : decode cX0_tellPlace 74 = .ok (.iload 5, 2) := by decide +kernel
theorem dX0_tellPlace_76 : decode cX0_tellPlace 76 = .ok (.iastore, 1) := by decide +kernel
theorem dX0_tellPlace_77 : decode cX0_tellPlace 77 = .ok (.aload_n 0, 1) := by decide +kernel
theorem dX0_tellPlace_78 : decode cX0_tellPlace 78 = .ok (.getfield 18, 3) := by decide +kernel
theorem dX0_tellPlace_81 : decode cX0_tellPlace 81 = .ok (.iload_n 3, 1) := by decide +kernel
theorem dX0_tellPlace_82 : decode cX0_tellPlace 82 = .ok (.bipush 12, 2) := by decide +kernel
theorem dX0_tellPlace_84 : decode cX0_tellPlace 84 = .ok (.imul, 1) := by decide +kernel
theorem dX0_tellPlace_85 : decode cX0_tellPlace 85 = .ok (.iload 4, 2) := by decide +kernel
theorem dX0_tellPlace_87 : decode cX0_tellPlace 87 = .ok (.iadd, 1) := by decide +kernel
theorem dX0_tellPlace_88 : decode cX0_tellPlace 88 = .ok (.iload 5, 2) := by decide +kernel
theorem dX0_tellPlace_90 : decode cX0_tellPlace 90 = .ok (.iastore, 1) := by decide +kernel
theorem dX0_tellPlace_91 : decode cX0_tellPlace 91 = .ok (.iinc 4 1, 3) := by decide +kernel
theorem dX0_tellPlace_94 : decode cX0_tellPlace 94 = .ok (.goto (-64), 3) := by decide +kernel
theorem dX0_tellPlace_97 : decode cX0_tellPlace 97 = .ok (.aload_n 0, 1) := by decide +kernel
theorem dX0_tellPlace_98 : decode cX0_tellPlace 98 = .ok (.dup, 1) := by decide +kernel
theorem dX0_tellPlace_99 : decode cX0_tellPlace 99 = .ok (.getfield 39, 3) := by decide +kernel
theorem dX0_tellPlace_102 : decode cX0_tellPlace 102 = .ok (.iconst 1, 1) := by decide +kernel
theorem dX0_tellPlace_103 : decode cX0_tellPlace 103 = .ok (.iadd, 1) := by decide +kernel
theorem dX0_tellPlace_104 : decode cX0_tellPlace 104 = .ok (.putfield 39, 3) := by decide +kernel
theorem dX0_tellPlace_107 : decode cX0_tellPlace 107 = .ok (.iload_n 3, 1) := by decide +kernel
theorem dX0_tellPlace_108 : decode cX0_tellPlace 108 = .ok (.ireturn, 1) := by decide +kernel
theorem dX1_init_0 : decode cX1_init 0 = .ok (.aload_n 0, 1) := by decide +kernel
theorem dX1_init_1 : decode cX1_init 1 = .ok (.invokespecial 1, 3) := by decide +kernel
theorem dX1_init_4 : decode cX1_init 4 = .ok (.return_, 1) := by decide +kernel
theorem dX2_init_0 : decode cX2_init 0 = .ok (.aload_n 0, 1) := by decide +kernel
theorem dX2_init_1 : decode cX2_init 1 = .ok (.invokespecial 3, 3) := by decide +kernel
theorem dX2_init_4 : decode cX2_init 4 = .ok (.aload_n 0, 1) := by decide +kernel
theorem dX2_init_5 : decode cX2_init 5 = .ok (.bipush 18, 2) := by decide +kernel
theorem dX2_init_7 : decode cX2_init 7 = .ok (.newarray .int, 2) := by decide +kernel
theorem dX2_init_9 : decode cX2_init 9 = .ok (.putfield 9, 3) := by decide +kernel
theorem dX2_init_12 : decode cX2_init 12 = .ok (.return_, 1) := by decide +kernel
theorem dX3_init_0 : decode cX3_init 0 = .ok (.aload_n 0, 1) := by decide +kernel
theorem dX3_init_1 : decode cX3_init 1 = .ok (.invokespecial 1, 3) := by decide +kernel
theorem dX3_init_4 : decode cX3_init 4 = .ok (.return_, 1) := by decide +kernel
theorem dX4_init_0 : decode cX4_init 0 = .ok (.aload_n 0, 1) := by decide +kernel
theorem dX4_init_1 : decode cX4_init 1 = .ok (.invokespecial 1, 3) := by decide +kernel
theorem dX4_init_4 : decode cX4_init 4 = .ok (.aload_n 0, 1) := by decide +kernel
theorem dX4_init_5 : decode cX4_init 5 = .ok (.new 7, 3) := by decide +kernel
theorem dX4_init_8 : decode cX4_init 8 = .ok (.dup, 1) := by decide +kernel
theorem dX4_init_9 : decode cX4_init 9 = .ok (.invokespecial 9, 3) := by decide +kernel
theorem dX4_init_12 : decode cX4_init 12 = .ok (.putfield 10, 3) := by decide +kernel
theorem dX4_init_15 : decode cX4_init 15 = .ok (.aload_n 0, 1) := by decide +kernel
theorem dX4_init_16 : decode cX4_init 16 = .ok (.new 7, 3) := by decide +kernel
theorem dX4_init_19 : decode cX4_init 19 = .ok (.dup, 1) := by decide +kernel
theorem dX4_init_20 : decode cX4_init 20 = .ok (.invokespecial 9, 3) := by decide +kernel
theorem dX4_init_23 : decode cX4_init 23 = .ok (.putfield 16, 3) := by decide +kernel
theorem dX4_init_26 : decode cX4_init 26 = .ok (.aload_n 0, 1) := by decide +kernel
theorem dX4_init_27 : decode cX4_init 27 = .ok (.new 7, 3) := by decide +kernel
theorem dX4_init_30 : decode cX4_init 30 = .ok (.dup, 1) := by decide +kernel
theorem dX4_init_31 : decode cX4_init 31 = .ok (.invokespecial 9, 3) := by decide +kernel
theorem dX4_init_34 : decode cX4_init 34 = .ok (.putfield 19, 3) := by decide +kernel
theorem dX4_init_37 : decode cX4_init 37 = .ok (.return_, 1) := by decide +kernel
theorem dX5_init_0 : decode cX5_init 0 = .ok (.aload_n 0, 1) := by decide +kernel
theorem dX5_init_1 : decode cX5_init 1 = .ok (.invokespecial 3, 3) := by decide +kernel
theorem dX5_init_4 : decode cX5_init 4 = .ok (.aload_n 0, 1) := by decide +kernel
theorem dX5_init_5 : decode cX5_init 5 = .ok (.new 9, 3) := by decide +kernel
theorem dX5_init_8 : decode cX5_init 8 = .ok (.dup, 1) := by decide +kernel
theorem dX5_init_9 : decode cX5_init 9 = .ok (.invokespecial 11, 3) := by decide +kernel
theorem dX5_init_12 : decode cX5_init 12 = .ok (.putfield 12, 3) := by decide +kernel
theorem dX5_init_15 : decode cX5_init 15 = .ok (.aload_n 0, 1) := by decide +kernel
theorem dX5_init_16 : decode cX5_init 16 = .ok (.iconst 3, 1) := by decide +kernel
theorem dX5_init_17 : decode cX5_init 17 = .ok (.anewarray 16, 3) := by decide +kernel
theorem dX5_init_20 : decode cX5_init 20 = .ok (.putfield 18, 3) := by decide +kernel
theorem dX5_init_23 : decode cX5_init 23 = .ok (.iconst 0, 1) := by decide +kernel
theorem dX5_init_24 : decode cX5_init 24 = .ok (.istore_n 1, 1) := by decide +kernel
theorem dX5_init_25 : decode cX5_init 25 = .ok (.iload_n 1, 1) := by decide +kernel
theorem dX5_init_26 : decode cX5_init 26 = .ok (.aload_n 0, 1) := by decide +kernel
theorem dX5_init_27 : decode cX5_init 27 = .ok (.getfield 18, 3) := by decide +kernel
theorem dX5_init_30 : decode cX5_init 30 = .ok (.arraylength, 1) := by decide +kernel
theorem dX5_init_31 : decode cX5_init 31 = .ok (.if_icmp .ge 22, 3) := by decide +kernel
theorem dX5_init_34 : decode cX5_init 34 = .ok (.aload_n 0, 1) := by decide +kernel
theorem dX5_init_35 : decode cX5_init 35 = .ok (.getfield 18, 3) := by decide +kernel
theorem dX5_init_38 : decode cX5_init 38 = .ok (.iload_n 1, 1) := by decide +kernel
theorem dX5_init_39 : decode cX5_init 39 = .ok (.new 16, 3) := by decide +kernel
theorem dX5_init_42 : decode cX5_init 42 = .ok (.dup, 1) := by decide +kernel
theorem dX5_init_43 : decode cX5_init 43 = .ok (.invokespecial 22, 3) := by decide +kernel
theorem dX5_init_46 : decode cX5_init 46 = .ok (.aastore, 1) := by decide +kernel
theorem dX5_init_47 : decode cX5_init 47 = .ok (.iinc 1 1, 3) := by decide +kernel
theorem dX5_init_50 : decode cX5_init 50 = .ok (.goto (-25), 3) := by decide +kernel
theorem dX5_init_53 : decode cX5_init 53 = .ok (.aload_n 0, 1) := by decide +kernel
theorem dX5_init_54 : decode cX5_init 54 = .ok (.new 23, 3) := by decide +kernel
theorem dX5_init_57 : decode cX5_init 57 = .ok (.dup, 1) := by decide +kernel
theorem dX5_init_58 : decode cX5_init 58 = .ok (.invokespecial 25, 3) := by decide +kernel
theorem dX5_init_61 : decode cX5_init 61 = .ok (.putfield 26, 3) := by decide +kernel
theorem dX5_init_64 : decode cX5_init 64 = .ok (.aload_n 0, 1) := by decide +kernel
theorem dX5_init_65 : decode cX5_init 65 = .ok (.new 30, 3) := by decide +kernel
theorem dX5_init_68 : decode cX5_init 68 = .ok (.dup, 1) := by decide +kernel
theorem dX5_init_69 : decode cX5_init 69 = .ok (.invokespecial 32, 3) := by decide +kernel
theorem dX5_init_72 : decode cX5_init 72 = .ok (.putfield 33, 3) := by decide +kernel
theorem dX5_init_75 : decode cX5_init 75 = .ok (.aload_n 0, 1) := by decide +kernel
theorem dX5_init_76 : decode cX5_init 76 = .ok (.new 37, 3) := by decide +kernel
theorem dX5_init_79 : decode cX5_init 79 = .ok (.dup, 1) := by decide +kernel
theorem dX5_init_80 : decode cX5_init 80 = .ok (.invokespecial 39, 3) := by decide +kernel
theorem dX5_init_83 : decode cX5_init 83 = .ok (.putfield 40, 3) := by decide +kernel
theorem dX5_init_86 : decode cX5_init 86 = .ok (.aload_n 0, 1) := by decide +kernel
theorem dX5_init_87 : decode cX5_init 87 = .ok (.new 37, 3) := by decide +kernel
theorem dX5_init_90 : decode cX5_init 90 = .ok (.dup, 1) := by decide +kernel
theorem dX5_init_91 : decode cX5_init 91 = .ok (.invokespecial 39, 3) := by decide +kernel
theorem dX5_init_94 : decode cX5_init 94 = .ok (.putfield 44, 3) := by decide +kernel
theorem dX5_init_97 : decode cX5_init 97 = .ok (.aload_n 0, 1) := by decide +kernel
theorem dX5_init_98 : decode cX5_init 98 = .ok (.new 37, 3) := by decide +kernel
theorem dX5_init_101 : decode cX5_init 101 = .ok (.dup, 1) := by decide +kernel
theorem dX5_init_102 : decode cX5_init 102 = .ok (.invokespecial 39, 3) := by decide +kernel
theorem dX5_init_105 : decode cX5_init 105 = .ok (.putfield 47, 3) := by decide +kernel
theorem dX5_init_108 : decode cX5_init 108 = .ok (.return_, 1) := by decide +kernel
theorem dX5_addPlace_0 : decode cX5_addPlace 0 = .ok (.iload_n 1, 1) := by decide +kernel
theorem dX5_addPlace_1 : decode cX5_addPlace 1 = .ok (.iconst 0, 1) := by decide +kernel
theorem dX5_addPlace_2 : decode cX5_addPlace 2 = .ok (.bipush 60, 2) := by decide +kernel
theorem dX5_addPlace_4 : decode cX5_addPlace 4 = .ok (.invokestatic 50, 3) := by decide +kernel
theorem dX5_addPlace_7 : decode cX5_addPlace 7 = .ok (.ifCond .ne 13, 3) := by decide +kernel
theorem dX5_addPlace_10 : decode cX5_addPlace 10 = .ok (.iload_n 2, 1) := by decide +kernel
theorem dX5_addPlace_11 : decode cX5_addPlace 11 = .ok (.iconst 0, 1) := by decide +kernel
theorem dX5_addPlace_12 : decode cX5_addPlace 12 = .ok (.bipush 60, 2) := by decide +kernel
theorem dX5_addPlace_14 : decode cX5_addPlace 14 = .ok (.invokestatic 50, 3) := by decide +kernel
theorem dX5_addPlace_17 : decode cX5_addPlace 17 = .ok (.ifCond .eq 13, 3) := by decide +kernel
theorem dX5_addPlace_20 : decode cX5_addPlace 20 = .ok (.new 54, 3) := by decide +kernel
theorem dX5_addPlace_23 : decode cX5_addPlace 23 = .ok (.dup, 1) := by decide +kernel
theorem dX5_addPlace_24 : decode cX5_addPlace 24 = .ok (.ldc 56, 2) := by decide +kernel
theorem dX5_addPlace_26 : decode cX5_addPlace 26 = .ok (.invokespecial 58, 3) := by decide +kernel
theorem dX5_addPlace_29 : decode cX5_addPlace 29 = .ok (.athrow, 1) := by decide +kernel
theorem dX5_addPlace_30 : decode cX5_addPlace 30 = .ok (.aload_n 0, 1) := by decide +kernel
theorem dX5_addPlace_31 : decode cX5_addPlace 31 = .ok (.getfield 12, 3) := by decide +kernel
theorem dX5_addPlace_34 : decode cX5_addPlace 34 = .ok (.getfield 61, 3) := by decide +kernel
theorem dX5_addPlace_37 : decode cX5_addPlace 37 = .ok (.bipush 12, 2) := by decide +kernel
theorem dX5_addPlace_39 : decode cX5_addPlace 39 = .ok (.if_icmp .lt 13, 3) := by decide +kernel
theorem dX5_addPlace_42 : decode cX5_addPlace 42 = .ok (.new 65, 3) := by decide +kernel
theorem dX5_addPlace_45 : decode cX5_addPlace 45 = .ok (.dup, 1) := by decide +kernel
theorem dX5_addPlace_46 : decode cX5_addPlace 46 = .ok (.ldc 67, 2) := by decide +kernel
theorem dX5_addPlace_48 : decode cX5_addPlace 48 = .ok (.invokespecial 69, 3) := by decide +kernel
theorem dX5_addPlace_51 : decode cX5_addPlace 51 = .ok (.athrow, 1) := by decide +kernel
theorem dX5_addPlace_52 : decode cX5_addPlace 52 = .ok (.aload_n 0, 1) := by decide +kernel
theorem dX5_addPlace_53 : decode cX5_addPlace 53 = .ok (.getfield 12, 3) := by decide +kernel
theorem dX5_addPlace_56 : decode cX5_addPlace 56 = .ok (.iload_n 1, 1) := by decide +kernel
theorem dX5_addPlace_57 : decode cX5_addPlace 57 = .ok (.iload_n 2, 1) := by decide +kernel
theorem dX5_addPlace_58 : decode cX5_addPlace 58 = .ok (.invokevirtual 70, 3) := by decide +kernel
theorem dX5_addPlace_61 : decode cX5_addPlace 61 = .ok (.ireturn, 1) := by decide +kernel
theorem dX5_addVehicle_0 : decode cX5_addVehicle 0 = .ok (.aload_n 0, 1) := by decide +kernel
theorem dX5_addVehicle_1 : decode cX5_addVehicle 1 = .ok (.iload_n 1, 1) := by decide +kernel
theorem dX5_addVehicle_2 : decode cX5_addVehicle 2 = .ok (.invokevirtual 74, 3) := by decide +kernel
theorem dX5_addJob_0 : decode cX5_addJob 0 = .ok (.aload_n 0, 1) := by decide +kernel
theorem dX5_addJob_1 : decode cX5_addJob 1 = .ok (.iload_n 1, 1) := by decide +kernel
theorem dX5_addJob_2 : decode cX5_addJob 2 = .ok (.invokevirtual 74, 3) := by decide +kernel
theorem dX5_setHours_0 : decode cX5_setHours 0 = .ok (.aload_n 0, 1) := by decide +kernel
theorem dX5_setHours_1 : decode cX5_setHours 1 = .ok (.iload_n 1, 1) := by decide +kernel
theorem dX5_setHours_2 : decode cX5_setHours 2 = .ok (.invokevirtual 120, 3) := by decide +kernel
theorem dX5_insert_0 : decode cX5_insert 0 = .ok (.aload_n 0, 1) := by decide +kernel
theorem dX5_insert_1 : decode cX5_insert 1 = .ok (.iload_n 1, 1) := by decide +kernel
theorem dX5_insert_2 : decode cX5_insert 2 = .ok (.invokevirtual 120, 3) := by decide +kernel
theorem dX5_insertAt_0 : decode cX5_insertAt 0 = .ok (.aload_n 0, 1) := by decide +kernel
theorem dX5_insertAt_1 : decode cX5_insertAt 1 = .ok (.iload_n 1, 1) := by decide +kernel
theorem dX5_insertAt_2 : decode cX5_insertAt 2 = .ok (.invokevirtual 120, 3) := by decide +kernel
theorem dX5_take_0 : decode cX5_take 0 = .ok (.aload_n 0, 1) := by decide +kernel
theorem dX5_take_1 : decode cX5_take 1 = .ok (.iload_n 1, 1) := by decide +kernel
theorem dX5_take_2 : decode cX5_take 2 = .ok (.invokevirtual 120, 3) := by decide +kernel
theorem dX5_rebuild_0 : decode cX5_rebuild 0 = .ok (.iconst 0, 1) := by decide +kernel
theorem dX5_rebuild_1 : decode cX5_rebuild 1 = .ok (.istore_n 1, 1) := by decide +kernel
theorem dX5_rebuild_2 : decode cX5_rebuild 2 = .ok (.iload_n 1, 1) := by decide +kernel
theorem dX5_rebuild_3 : decode cX5_rebuild 3 = .ok (.bipush 9, 2) := by decide +kernel
theorem dX5_rebuild_5 : decode cX5_rebuild 5 = .ok (.if_icmp .ge 24, 3) := by decide +kernel
theorem dX5_rebuild_8 : decode cX5_rebuild 8 = .ok (.aload_n 0, 1) := by decide +kernel
theorem dX5_rebuild_9 : decode cX5_rebuild 9 = .ok (.invokevirtual 205, 3) := by decide +kernel
theorem dX5_rebuild_12 : decode cX5_rebuild 12 = .ok (.ifCond .eq 17, 3) := by decide +kernel
theorem dX5_rebuild_29 : decode cX5_rebuild 29 = .ok (.iload_n 1, 1) := by decide +kernel
theorem dX5_rebuild_30 : decode cX5_rebuild 30 = .ok (.ireturn, 1) := by decide +kernel
theorem dX5_ruin_0 : decode cX5_ruin 0 = .ok (.iload_n 1, 1) := by decide +kernel
theorem dX5_ruin_1 : decode cX5_ruin 1 = .ok (.iconst 1, 1) := by decide +kernel
theorem dX5_ruin_2 : decode cX5_ruin 2 = .ok (.bipush 9, 2) := by decide +kernel
theorem dX5_ruin_4 : decode cX5_ruin 4 = .ok (.invokestatic 50, 3) := by decide +kernel
theorem dX5_ruin_7 : decode cX5_ruin 7 = .ok (.ifCond .eq 13, 3) := by decide +kernel
theorem dX5_ruin_10 : decode cX5_ruin 10 = .ok (.new 54, 3) := by decide +kernel
theorem dX5_ruin_13 : decode cX5_ruin 13 = .ok (.dup, 1) := by decide +kernel
theorem dX5_ruin_14 : decode cX5_ruin 14 = .ok (.ldc 208, 2) := by decide +kernel
theorem dX5_ruin_16 : decode cX5_ruin 16 = .ok (.invokespecial 58, 3) := by decide +kernel
theorem dX5_ruin_19 : decode cX5_ruin 19 = .ok (.athrow, 1) := by decide +kernel
theorem dX5_ruin_20 : decode cX5_ruin 20 = .ok (.iconst 0, 1) := by decide +kernel
theorem dX5_ruin_21 : decode cX5_ruin 21 = .ok (.istore_n 2, 1) := by decide +kernel
theorem dX5_ruin_22 : decode cX5_ruin 22 = .ok (.aload_n 0, 1) := by decide +kernel
theorem dX5_ruin_23 : decode cX5_ruin 23 = .ok (.invokevirtual 210, 3) := by decide +kernel
theorem dX5_ruin_26 : decode cX5_ruin 26 = .ok (.istore_n 3, 1) := by decide +kernel
theorem dX5_ruin_27 : decode cX5_ruin 27 = .ok (.iload_n 2, 1) := by decide +kernel
theorem dX5_ruin_28 : decode cX5_ruin 28 = .ok (.iload_n 1, 1) := by decide +kernel
theorem dX5_ruin_29 : decode cX5_ruin 29 = .ok (.if_icmp .ge 24, 3) := by decide +kernel
theorem dX5_ruin_32 : decode cX5_ruin 32 = .ok (.iload_n 3, 1) := by decide +kernel
theorem dX5_ruin_33 : decode cX5_ruin 33 = .ok (.iconst (-1), 1) := by decide +kernel
theorem dX5_ruin_34 : decode cX5_ruin 34 = .ok (.if_icmp .eq 19, 3) := by decide +kernel
theorem dX5_ruin_53 : decode cX5_ruin 53 = .ok (.iload_n 2, 1) := by decide +kernel
theorem dX5_ruin_54 : decode cX5_ruin 54 = .ok (.ireturn, 1) := by decide +kernel
theorem dX5_change_0 : decode cX5_change 0 = .ok (.iload_n 1, 1) := by decide +kernel
theorem dX5_change_1 : decode cX5_change 1 = .ok (.invokestatic 214, 3) := by decide +kernel
theorem dX5_change_4 : decode cX5_change 4 = .ok (.aload_n 0, 1) := by decide +kernel
theorem dX5_change_5 : decode cX5_change 5 = .ok (.invokevirtual 217, 3) := by decide +kernel
theorem dX5_change_8 : decode cX5_change 8 = .ok (.aload_n 0, 1) := by decide +kernel
theorem dX5_change_9 : decode cX5_change 9 = .ok (.iload_n 1, 1) := by decide +kernel
theorem dX5_change_10 : decode cX5_change 10 = .ok (.invokevirtual 220, 3) := by decide +kernel
theorem dX5_change_13 : decode cX5_change 13 = .ok (.aload_n 0, 1) := by decide +kernel
theorem dX5_change_14 : decode cX5_change 14 = .ok (.invokevirtual 223, 3) := by decide +kernel
theorem dX5_change_17 : decode cX5_change 17 = .ok (.aload_n 0, 1) := by decide +kernel
theorem dX5_change_18 : decode cX5_change 18 = .ok (.getfield 226, 3) := by decide +kernel
theorem dX5_change_21 : decode cX5_change 21 = .ok (.ireturn, 1) := by decide +kernel
theorem dX5_improve_0 : decode cX5_improve 0 = .ok (.iload_n 1, 1) := by decide +kernel
theorem dX5_improve_1 : decode cX5_improve 1 = .ok (.iconst 1, 1) := by decide +kernel
theorem dX5_improve_2 : decode cX5_improve 2 = .ok (.bipush 10, 2) := by decide +kernel
theorem dX5_improve_4 : decode cX5_improve 4 = .ok (.invokestatic 50, 3) := by decide +kernel
theorem dX5_improve_7 : decode cX5_improve 7 = .ok (.ifCond .eq 13, 3) := by decide +kernel
theorem dX5_improve_10 : decode cX5_improve 10 = .ok (.new 54, 3) := by decide +kernel
theorem dX5_improve_13 : decode cX5_improve 13 = .ok (.dup, 1) := by decide +kernel
theorem dX5_improve_14 : decode cX5_improve 14 = .ok (.ldc 229, 2) := by decide +kernel
theorem dX5_improve_16 : decode cX5_improve 16 = .ok (.invokespecial 58, 3) := by decide +kernel
theorem dX5_improve_19 : decode cX5_improve 19 = .ok (.athrow, 1) := by decide +kernel
theorem dX5_improve_20 : decode cX5_improve 20 = .ok (.iconst 0, 1) := by decide +kernel
theorem dX5_improve_21 : decode cX5_improve 21 = .ok (.istore_n 2, 1) := by decide +kernel
theorem dX5_improve_22 : decode cX5_improve 22 = .ok (.iconst 0, 1) := by decide +kernel
theorem dX5_improve_23 : decode cX5_improve 23 = .ok (.istore_n 3, 1) := by decide +kernel
theorem dX5_improve_24 : decode cX5_improve 24 = .ok (.iload_n 3, 1) := by decide +kernel
theorem dX5_improve_25 : decode cX5_improve 25 = .ok (.iload_n 1, 1) := by decide +kernel
theorem dX5_improve_26 : decode cX5_improve 26 = .ok (.if_icmp .ge 55, 3) := by decide +kernel
theorem dX5_improve_29 : decode cX5_improve 29 = .ok (.aload_n 0, 1) := by decide +kernel
theorem dX5_improve_30 : decode cX5_improve 30 = .ok (.invokevirtual 217, 3) := by decide +kernel
theorem dX5_improve_33 : decode cX5_improve 33 = .ok (.iconst 0, 1) := by decide +kernel
theorem dX5_improve_34 : decode cX5_improve 34 = .ok (.istore 4, 2) := by decide +kernel
theorem dX5_improve_36 : decode cX5_improve 36 = .ok (.iload 4, 2) := by decide +kernel
theorem dX5_improve_38 : decode cX5_improve 38 = .ok (.iconst 4, 1) := by decide +kernel
theorem dX5_improve_39 : decode cX5_improve 39 = .ok (.if_icmp .ge 15, 3) := by decide +kernel
theorem dX5_improve_42 : decode cX5_improve 42 = .ok (.aload_n 0, 1) := by decide +kernel
theorem dX5_improve_43 : decode cX5_improve 43 = .ok (.iload 4, 2) := by decide +kernel
theorem dX5_improve_45 : decode cX5_improve 45 = .ok (.invokevirtual 220, 3) := by decide +kernel
theorem dX5_improve_48 : decode cX5_improve 48 = .ok (.iinc 4 1, 3) := by decide +kernel
theorem dX5_improve_51 : decode cX5_improve 51 = .ok (.goto (-15), 3) := by decide +kernel
theorem dX5_improve_54 : decode cX5_improve 54 = .ok (.aload_n 0, 1) := by decide +kernel
theorem dX5_improve_55 : decode cX5_improve 55 = .ok (.getfield 226, 3) := by decide +kernel
theorem dX5_improve_58 : decode cX5_improve 58 = .ok (.ifCond .ne 6, 3) := by decide +kernel
theorem dX5_improve_61 : decode cX5_improve 61 = .ok (.goto 20, 3) := by decide +kernel
theorem dX5_improve_81 : decode cX5_improve 81 = .ok (.iload_n 2, 1) := by decide +kernel
theorem dX5_improve_82 : decode cX5_improve 82 = .ok (.ireturn, 1) := by decide +kernel
theorem dX5_repair_0 : decode cX5_repair 0 = .ok (.aload_n 0, 1) := by decide +kernel
theorem dX5_repair_1 : decode cX5_repair 1 = .ok (.iload_n 1, 1) := by decide +kernel
theorem dX5_repair_2 : decode cX5_repair 2 = .ok (.invokevirtual 157, 3) := by decide +kernel
theorem dX5_advance_0 : decode cX5_advance 0 = .ok (.iload_n 1, 1) := by decide +kernel
theorem dX5_advance_1 : decode cX5_advance 1 = .ok (.iconst 1, 1) := by decide +kernel
theorem dX5_advance_2 : decode cX5_advance 2 = .ok (.sipush 1440, 3) := by decide +kernel
theorem dX5_advance_5 : decode cX5_advance 5 = .ok (.invokestatic 50, 3) := by decide +kernel
theorem dX5_advance_8 : decode cX5_advance 8 = .ok (.ifCond .eq 13, 3) := by decide +kernel
theorem dX5_advance_11 : decode cX5_advance 11 = .ok (.new 54, 3) := by decide +kernel
theorem dX5_advance_14 : decode cX5_advance 14 = .ok (.dup, 1) := by decide +kernel
theorem dX5_advance_15 : decode cX5_advance 15 = .ok (.ldc 239, 2) := by decide +kernel
theorem dX5_advance_17 : decode cX5_advance 17 = .ok (.invokespecial 58, 3) := by decide +kernel
theorem dX5_advance_20 : decode cX5_advance 20 = .ok (.athrow, 1) := by decide +kernel
theorem dX5_advance_21 : decode cX5_advance 21 = .ok (.aload_n 0, 1) := by decide +kernel
theorem dX5_advance_22 : decode cX5_advance 22 = .ok (.getfield 12, 3) := by decide +kernel
theorem dX5_advance_25 : decode cX5_advance 25 = .ok (.getfield 241, 3) := by decide +kernel
theorem dX5_advance_28 : decode cX5_advance 28 = .ok (.iload_n 1, 1) := by decide +kernel
theorem dX5_advance_29 : decode cX5_advance 29 = .ok (.iadd, 1) := by decide +kernel
theorem dX5_advance_30 : decode cX5_advance 30 = .ok (.sipush 1440, 3) := by decide +kernel
theorem dX5_advance_33 : decode cX5_advance 33 = .ok (.if_icmp .gt 10, 3) := by decide +kernel
theorem dX5_advance_36 : decode cX5_advance 36 = .ok (.aload_n 0, 1) := by decide +kernel
theorem dX5_advance_37 : decode cX5_advance 37 = .ok (.invokevirtual 140, 3) := by decide +kernel
theorem dX5_advance_40 : decode cX5_advance 40 = .ok (.ifCond .ne 13, 3) := by decide +kernel
theorem dX5_advance_53 : decode cX5_advance 53 = .ok (.aload_n 0, 1) := by decide +kernel
theorem dX5_advance_54 : decode cX5_advance 54 = .ok (.getfield 12, 3) := by decide +kernel
theorem dX5_advance_57 : decode cX5_advance 57 = .ok (.dup, 1) := by decide +kernel
theorem dX5_advance_58 : decode cX5_advance 58 = .ok (.getfield 241, 3) := by decide +kernel
theorem dX5_advance_61 : decode cX5_advance 61 = .ok (.iload_n 1, 1) := by decide +kernel
theorem dX5_advance_62 : decode cX5_advance 62 = .ok (.iadd, 1) := by decide +kernel
theorem dX5_advance_63 : decode cX5_advance 63 = .ok (.putfield 241, 3) := by decide +kernel
theorem dX5_advance_66 : decode cX5_advance 66 = .ok (.iconst 0, 1) := by decide +kernel
theorem dX5_advance_67 : decode cX5_advance 67 = .ok (.istore_n 2, 1) := by decide +kernel
theorem dX5_advance_68 : decode cX5_advance 68 = .ok (.iconst 0, 1) := by decide +kernel
theorem dX5_advance_69 : decode cX5_advance 69 = .ok (.istore_n 3, 1) := by decide +kernel
theorem dX5_advance_70 : decode cX5_advance 70 = .ok (.iload_n 3, 1) := by decide +kernel
theorem dX5_advance_71 : decode cX5_advance 71 = .ok (.aload_n 0, 1) := by decide +kernel
theorem dX5_advance_72 : decode cX5_advance 72 = .ok (.getfield 86, 3) := by decide +kernel
theorem dX5_advance_75 : decode cX5_advance 75 = .ok (.if_icmp .ge 64, 3) := by decide +kernel
theorem dX5_advance_139 : decode cX5_advance 139 = .ok (.iload_n 2, 1) := by decide +kernel
theorem dX5_advance_140 : decode cX5_advance 140 = .ok (.ireturn, 1) := by decide +kernel
theorem dX5_clock_0 : decode cX5_clock 0 = .ok (.aload_n 0, 1) := by decide +kernel
theorem dX5_clock_1 : decode cX5_clock 1 = .ok (.getfield 12, 3) := by decide +kernel
theorem dX5_clock_4 : decode cX5_clock 4 = .ok (.getfield 241, 3) := by decide +kernel
theorem dX5_clock_7 : decode cX5_clock 7 = .ok (.ireturn, 1) := by decide +kernel
theorem dX5_places_0 : decode cX5_places 0 = .ok (.aload_n 0, 1) := by decide +kernel
theorem dX5_places_1 : decode cX5_places 1 = .ok (.getfield 12, 3) := by decide +kernel
theorem dX5_places_4 : decode cX5_places 4 = .ok (.getfield 61, 3) := by decide +kernel
theorem dX5_places_7 : decode cX5_places 7 = .ok (.ireturn, 1) := by decide +kernel
theorem dX5_vehicles_0 : decode cX5_vehicles 0 = .ok (.aload_n 0, 1) := by decide +kernel
theorem dX5_vehicles_1 : decode cX5_vehicles 1 = .ok (.getfield 86, 3) := by decide +kernel
theorem dX5_vehicles_4 : decode cX5_vehicles 4 = .ok (.ireturn, 1) := by decide +kernel
theorem dX5_jobs_0 : decode cX5_jobs 0 = .ok (.aload_n 0, 1) := by decide +kernel
theorem dX5_jobs_1 : decode cX5_jobs 1 = .ok (.getfield 12, 3) := by decide +kernel
theorem dX5_jobs_4 : decode cX5_jobs 4 = .ok (.getfield 111, 3) := by decide +kernel
theorem dX5_jobs_7 : decode cX5_jobs 7 = .ok (.ireturn, 1) := by decide +kernel
theorem dX5_way_0 : decode cX5_way 0 = .ok (.aload_n 0, 1) := by decide +kernel
theorem dX5_way_1 : decode cX5_way 1 = .ok (.iload_n 1, 1) := by decide +kernel
theorem dX5_way_2 : decode cX5_way 2 = .ok (.invokevirtual 74, 3) := by decide +kernel
theorem dX5_vehicleOf_0 : decode cX5_vehicleOf 0 = .ok (.aload_n 0, 1) := by decide +kernel
theorem dX5_vehicleOf_1 : decode cX5_vehicleOf 1 = .ok (.iload_n 1, 1) := by decide +kernel
theorem dX5_vehicleOf_2 : decode cX5_vehicleOf 2 = .ok (.invokevirtual 120, 3) := by decide +kernel
theorem dX5_isSet_0 : decode cX5_isSet 0 = .ok (.aload_n 0, 1) := by decide +kernel
theorem dX5_isSet_1 : decode cX5_isSet 1 = .ok (.iload_n 1, 1) := by decide +kernel
theorem dX5_isSet_2 : decode cX5_isSet 2 = .ok (.invokevirtual 120, 3) := by decide +kernel
theorem dX5_stops_0 : decode cX5_stops 0 = .ok (.aload_n 0, 1) := by decide +kernel
theorem dX5_stops_1 : decode cX5_stops 1 = .ok (.iload_n 1, 1) := by decide +kernel
theorem dX5_stops_2 : decode cX5_stops 2 = .ok (.invokevirtual 157, 3) := by decide +kernel
theorem dX5_setStops_0 : decode cX5_setStops 0 = .ok (.aload_n 0, 1) := by decide +kernel
theorem dX5_setStops_1 : decode cX5_setStops 1 = .ok (.iload_n 1, 1) := by decide +kernel
theorem dX5_setStops_2 : decode cX5_setStops 2 = .ok (.invokevirtual 157, 3) := by decide +kernel
theorem dX5_jobAt_0 : decode cX5_jobAt 0 = .ok (.aload_n 0, 1) := by decide +kernel
theorem dX5_jobAt_1 : decode cX5_jobAt 1 = .ok (.iload_n 1, 1) := by decide +kernel
theorem dX5_jobAt_2 : decode cX5_jobAt 2 = .ok (.iload_n 2, 1) := by decide +kernel
theorem dX5_jobAt_3 : decode cX5_jobAt 3 = .ok (.invokevirtual 250, 3) := by decide +kernel
theorem dX5_isFetched_0 : decode cX5_isFetched 0 = .ok (.aload_n 0, 1) := by decide +kernel
theorem dX5_isFetched_1 : decode cX5_isFetched 1 = .ok (.iload_n 1, 1) := by decide +kernel
theorem dX5_isFetched_2 : decode cX5_isFetched 2 = .ok (.iload_n 2, 1) := by decide +kernel
theorem dX5_isFetched_3 : decode cX5_isFetched 3 = .ok (.invokevirtual 250, 3) := by decide +kernel
theorem dX5_arrives_0 : decode cX5_arrives 0 = .ok (.aload_n 0, 1) := by decide +kernel
theorem dX5_arrives_1 : decode cX5_arrives 1 = .ok (.iload_n 1, 1) := by decide +kernel
theorem dX5_arrives_2 : decode cX5_arrives 2 = .ok (.iload_n 2, 1) := by decide +kernel
theorem dX5_arrives_3 : decode cX5_arrives 3 = .ok (.invokevirtual 250, 3) := by decide +kernel
theorem dX5_begins_0 : decode cX5_begins 0 = .ok (.aload_n 0, 1) := by decide +kernel
theorem dX5_begins_1 : decode cX5_begins 1 = .ok (.iload_n 1, 1) := by decide +kernel
theorem dX5_begins_2 : decode cX5_begins 2 = .ok (.iload_n 2, 1) := by decide +kernel
theorem dX5_begins_3 : decode cX5_begins 3 = .ok (.invokevirtual 250, 3) := by decide +kernel
theorem dX5_loadBehind_0 : decode cX5_loadBehind 0 = .ok (.aload_n 0, 1) := by decide +kernel
theorem dX5_loadBehind_1 : decode cX5_loadBehind 1 = .ok (.iload_n 1, 1) := by decide +kernel
theorem dX5_loadBehind_2 : decode cX5_loadBehind 2 = .ok (.iload_n 2, 1) := by decide +kernel
theorem dX5_loadBehind_3 : decode cX5_loadBehind 3 = .ok (.invokevirtual 250, 3) := by decide +kernel
theorem dX5_slack_0 : decode cX5_slack 0 = .ok (.aload_n 0, 1) := by decide +kernel
theorem dX5_slack_1 : decode cX5_slack 1 = .ok (.iload_n 1, 1) := by decide +kernel
theorem dX5_slack_2 : decode cX5_slack 2 = .ok (.iload_n 2, 1) := by decide +kernel
theorem dX5_slack_3 : decode cX5_slack 3 = .ok (.invokevirtual 250, 3) := by decide +kernel
theorem dX5_back_0 : decode cX5_back 0 = .ok (.aload_n 0, 1) := by decide +kernel
theorem dX5_back_1 : decode cX5_back 1 = .ok (.iload_n 1, 1) := by decide +kernel
theorem dX5_back_2 : decode cX5_back 2 = .ok (.invokevirtual 157, 3) := by decide +kernel
theorem dX5_waits_0 : decode cX5_waits 0 = .ok (.aload_n 0, 1) := by decide +kernel
theorem dX5_waits_1 : decode cX5_waits 1 = .ok (.iload_n 1, 1) := by decide +kernel
theorem dX5_waits_2 : decode cX5_waits 2 = .ok (.invokevirtual 157, 3) := by decide +kernel
theorem dX5_isRight_0 : decode cX5_isRight 0 = .ok (.aload_n 0, 1) := by decide +kernel
theorem dX5_isRight_1 : decode cX5_isRight 1 = .ok (.iload_n 1, 1) := by decide +kernel
theorem dX5_isRight_2 : decode cX5_isRight 2 = .ok (.invokevirtual 157, 3) := by decide +kernel
theorem dX5_length_0 : decode cX5_length 0 = .ok (.aload_n 0, 1) := by decide +kernel
theorem dX5_length_1 : decode cX5_length 1 = .ok (.iload_n 1, 1) := by decide +kernel
theorem dX5_length_2 : decode cX5_length 2 = .ok (.invokevirtual 157, 3) := by decide +kernel
theorem dX5_costOf_0 : decode cX5_costOf 0 = .ok (.aload_n 0, 1) := by decide +kernel
theorem dX5_costOf_1 : decode cX5_costOf 1 = .ok (.iload_n 1, 1) := by decide +kernel
theorem dX5_costOf_2 : decode cX5_costOf 2 = .ok (.invokevirtual 157, 3) := by decide +kernel
theorem dX5_cost_0 : decode cX5_cost 0 = .ok (.aload_n 0, 1) := by decide +kernel
theorem dX5_cost_1 : decode cX5_cost 1 = .ok (.invokevirtual 293, 3) := by decide +kernel
theorem dX5_cost_4 : decode cX5_cost 4 = .ok (.ireturn, 1) := by decide +kernel
theorem dX5_fullness_0 : decode cX5_fullness 0 = .ok (.iconst 0, 1) := by decide +kernel
theorem dX5_fullness_1 : decode cX5_fullness 1 = .ok (.istore_n 1, 1) := by decide +kernel
theorem dX5_fullness_2 : decode cX5_fullness 2 = .ok (.iconst 0, 1) := by decide +kernel
theorem dX5_fullness_3 : decode cX5_fullness 3 = .ok (.istore_n 2, 1) := by decide +kernel
theorem dX5_fullness_4 : decode cX5_fullness 4 = .ok (.iconst 0, 1) := by decide +kernel
theorem dX5_fullness_5 : decode cX5_fullness 5 = .ok (.istore_n 3, 1) := by decide +kernel
theorem dX5_fullness_6 : decode cX5_fullness 6 = .ok (.iload_n 3, 1) := by decide +kernel
theorem dX5_fullness_7 : decode cX5_fullness 7 = .ok (.aload_n 0, 1) := by decide +kernel
theorem dX5_fullness_8 : decode cX5_fullness 8 = .ok (.getfield 86, 3) := by decide +kernel
theorem dX5_fullness_11 : decode cX5_fullness 11 = .ok (.if_icmp .ge 49, 3) := by decide +kernel
theorem dX5_fullness_60 : decode cX5_fullness 60 = .ok (.iload_n 2, 1) := by decide +kernel
theorem dX5_fullness_61 : decode cX5_fullness 61 = .ok (.ifCond .ne 7, 3) := by decide +kernel
theorem dX5_fullness_64 : decode cX5_fullness 64 = .ok (.dconst 0, 1) := by decide +kernel
theorem dX5_fullness_65 : decode cX5_fullness 65 = .ok (.goto 8, 3) := by decide +kernel
theorem dX5_fullness_73 : decode cX5_fullness 73 = .ok (.dreturn, 1) := by decide +kernel
theorem dX5_wouldAdd_0 : decode cX5_wouldAdd 0 = .ok (.aload_n 0, 1) := by decide +kernel
theorem dX5_wouldAdd_1 : decode cX5_wouldAdd 1 = .ok (.iload_n 1, 1) := by decide +kernel
theorem dX5_wouldAdd_2 : decode cX5_wouldAdd 2 = .ok (.invokevirtual 120, 3) := by decide +kernel
theorem dX5_gain_0 : decode cX5_gain 0 = .ok (.iload_n 1, 1) := by decide +kernel
theorem dX5_gain_1 : decode cX5_gain 1 = .ok (.invokestatic 214, 3) := by decide +kernel
theorem dX5_gain_4 : decode cX5_gain 4 = .ok (.aload_n 0, 1) := by decide +kernel
theorem dX5_gain_5 : decode cX5_gain 5 = .ok (.invokevirtual 217, 3) := by decide +kernel
theorem dX5_gain_8 : decode cX5_gain 8 = .ok (.aload_n 0, 1) := by decide +kernel
theorem dX5_gain_9 : decode cX5_gain 9 = .ok (.iload_n 1, 1) := by decide +kernel
theorem dX5_gain_10 : decode cX5_gain 10 = .ok (.invokevirtual 220, 3) := by decide +kernel
theorem dX5_gain_13 : decode cX5_gain 13 = .ok (.aload_n 0, 1) := by decide +kernel
theorem dX5_gain_14 : decode cX5_gain 14 = .ok (.getfield 226, 3) := by decide +kernel
theorem dX5_gain_17 : decode cX5_gain 17 = .ok (.ireturn, 1) := by decide +kernel
theorem dX5_laterBack_0 : decode cX5_laterBack 0 = .ok (.aload_n 0, 1) := by decide +kernel
theorem dX5_laterBack_1 : decode cX5_laterBack 1 = .ok (.iload_n 1, 1) := by decide +kernel
theorem dX5_laterBack_2 : decode cX5_laterBack 2 = .ok (.iload_n 2, 1) := by decide +kernel
theorem dX5_laterBack_3 : decode cX5_laterBack 3 = .ok (.invokevirtual 250, 3) := by decide +kernel
theorem dX5_costWithout_0 : decode cX5_costWithout 0 = .ok (.aload_n 0, 1) := by decide +kernel
theorem dX5_costWithout_1 : decode cX5_costWithout 1 = .ok (.iload_n 1, 1) := by decide +kernel
theorem dX5_costWithout_2 : decode cX5_costWithout 2 = .ok (.invokevirtual 120, 3) := by decide +kernel
theorem dX5_digest_0 : decode cX5_digest 0 = .ok (.ldc2_w 314, 3) := by decide +kernel
theorem dX5_digest_3 : decode cX5_digest 3 = .ok (.lstore_n 1, 1) := by decide +kernel
theorem dX5_digest_4 : decode cX5_digest 4 = .ok (.lload_n 1, 1) := by decide +kernel
theorem dX5_digest_5 : decode cX5_digest 5 = .ok (.ldc2_w 316, 3) := by decide +kernel
theorem dX5_digest_8 : decode cX5_digest 8 = .ok (.lmul, 1) := by decide +kernel
theorem dX5_digest_9 : decode cX5_digest 9 = .ok (.aload_n 0, 1) := by decide +kernel
theorem dX5_digest_10 : decode cX5_digest 10 = .ok (.getfield 12, 3) := by decide +kernel
theorem dX5_digest_13 : decode cX5_digest 13 = .ok (.getfield 241, 3) := by decide +kernel
theorem dX5_digest_16 : decode cX5_digest 16 = .ok (.i2l, 1) := by decide +kernel
theorem dX5_digest_17 : decode cX5_digest 17 = .ok (.ladd, 1) := by decide +kernel
theorem dX5_digest_18 : decode cX5_digest 18 = .ok (.lstore_n 1, 1) := by decide +kernel
theorem dX5_digest_19 : decode cX5_digest 19 = .ok (.lload_n 1, 1) := by decide +kernel
theorem dX5_digest_20 : decode cX5_digest 20 = .ok (.ldc2_w 316, 3) := by decide +kernel
theorem dX5_digest_23 : decode cX5_digest 23 = .ok (.lmul, 1) := by decide +kernel
theorem dX5_digest_24 : decode cX5_digest 24 = .ok (.aload_n 0, 1) := by decide +kernel
theorem dX5_digest_25 : decode cX5_digest 25 = .ok (.getfield 12, 3) := by decide +kernel
theorem dX5_digest_28 : decode cX5_digest 28 = .ok (.getfield 61, 3) := by decide +kernel
theorem dX5_digest_31 : decode cX5_digest 31 = .ok (.i2l, 1) := by decide +kernel
theorem dX5_digest_32 : decode cX5_digest 32 = .ok (.ladd, 1) := by decide +kernel
theorem dX5_digest_33 : decode cX5_digest 33 = .ok (.lstore_n 1, 1) := by decide +kernel
theorem dX5_digest_34 : decode cX5_digest 34 = .ok (.lload_n 1, 1) := by decide +kernel
theorem dX5_digest_35 : decode cX5_digest 35 = .ok (.ldc2_w 316, 3) := by decide +kernel
theorem dX5_digest_38 : decode cX5_digest 38 = .ok (.lmul, 1) := by decide +kernel
theorem dX5_digest_39 : decode cX5_digest 39 = .ok (.aload_n 0, 1) := by decide +kernel
theorem dX5_digest_40 : decode cX5_digest 40 = .ok (.getfield 86, 3) := by decide +kernel
theorem dX5_digest_43 : decode cX5_digest 43 = .ok (.i2l, 1) := by decide +kernel
theorem dX5_digest_44 : decode cX5_digest 44 = .ok (.ladd, 1) := by decide +kernel
theorem dX5_digest_45 : decode cX5_digest 45 = .ok (.lstore_n 1, 1) := by decide +kernel
theorem dX5_digest_46 : decode cX5_digest 46 = .ok (.lload_n 1, 1) := by decide +kernel
theorem dX5_digest_47 : decode cX5_digest 47 = .ok (.ldc2_w 316, 3) := by decide +kernel
theorem dX5_digest_50 : decode cX5_digest 50 = .ok (.lmul, 1) := by decide +kernel
theorem dX5_digest_51 : decode cX5_digest 51 = .ok (.aload_n 0, 1) := by decide +kernel
theorem dX5_digest_52 : decode cX5_digest 52 = .ok (.getfield 12, 3) := by decide +kernel
theorem dX5_digest_55 : decode cX5_digest 55 = .ok (.getfield 111, 3) := by decide +kernel
theorem dX5_digest_58 : decode cX5_digest 58 = .ok (.i2l, 1) := by decide +kernel
theorem dX5_digest_59 : decode cX5_digest 59 = .ok (.ladd, 1) := by decide +kernel
theorem dX5_digest_60 : decode cX5_digest 60 = .ok (.lstore_n 1, 1) := by decide +kernel
theorem dX5_digest_61 : decode cX5_digest 61 = .ok (.lload_n 1, 1) := by decide +kernel
theorem dX5_digest_62 : decode cX5_digest 62 = .ok (.ldc2_w 316, 3) := by decide +kernel
theorem dX5_digest_65 : decode cX5_digest 65 = .ok (.lmul, 1) := by decide +kernel
theorem dX5_digest_66 : decode cX5_digest 66 = .ok (.aload_n 0, 1) := by decide +kernel
theorem dX5_digest_67 : decode cX5_digest 67 = .ok (.invokevirtual 293, 3) := by decide +kernel
theorem dX5_digest_70 : decode cX5_digest 70 = .ok (.i2l, 1) := by decide +kernel
theorem dX5_digest_71 : decode cX5_digest 71 = .ok (.ladd, 1) := by decide +kernel
theorem dX5_digest_72 : decode cX5_digest 72 = .ok (.lstore_n 1, 1) := by decide +kernel
theorem dX5_digest_73 : decode cX5_digest 73 = .ok (.iconst 0, 1) := by decide +kernel
theorem dX5_digest_74 : decode cX5_digest 74 = .ok (.istore_n 3, 1) := by decide +kernel
theorem dX5_digest_75 : decode cX5_digest 75 = .ok (.iload_n 3, 1) := by decide +kernel
theorem dX5_digest_76 : decode cX5_digest 76 = .ok (.aload_n 0, 1) := by decide +kernel
theorem dX5_digest_77 : decode cX5_digest 77 = .ok (.getfield 86, 3) := by decide +kernel
theorem dX5_digest_80 : decode cX5_digest 80 = .ok (.if_icmp .ge 21, 3) := by decide +kernel
theorem dX5_digest_101 : decode cX5_digest 101 = .ok (.iconst 0, 1) := by decide +kernel
theorem dX5_digest_102 : decode cX5_digest 102 = .ok (.istore_n 3, 1) := by decide +kernel
theorem dX5_digest_103 : decode cX5_digest 103 = .ok (.iload_n 3, 1) := by decide +kernel
theorem dX5_digest_104 : decode cX5_digest 104 = .ok (.aload_n 0, 1) := by decide +kernel
theorem dX5_digest_105 : decode cX5_digest 105 = .ok (.getfield 12, 3) := by decide +kernel
theorem dX5_digest_108 : decode cX5_digest 108 = .ok (.getfield 111, 3) := by decide +kernel
theorem dX5_digest_111 : decode cX5_digest 111 = .ok (.if_icmp .ge 43, 3) := by decide +kernel
theorem dX5_digest_154 : decode cX5_digest 154 = .ok (.iconst 0, 1) := by decide +kernel
theorem dX5_digest_155 : decode cX5_digest 155 = .ok (.istore_n 3, 1) := by decide +kernel
theorem dX5_digest_156 : decode cX5_digest 156 = .ok (.iload_n 3, 1) := by decide +kernel
theorem dX5_digest_157 : decode cX5_digest 157 = .ok (.iconst 4, 1) := by decide +kernel
theorem dX5_digest_158 : decode cX5_digest 158 = .ok (.if_icmp .ge 30, 3) := by decide +kernel
theorem dX5_digest_161 : decode cX5_digest 161 = .ok (.aload_n 0, 1) := by decide +kernel
theorem dX5_digest_162 : decode cX5_digest 162 = .ok (.invokevirtual 217, 3) := by decide +kernel
theorem dX5_digest_165 : decode cX5_digest 165 = .ok (.aload_n 0, 1) := by decide +kernel
theorem dX5_digest_166 : decode cX5_digest 166 = .ok (.iload_n 3, 1) := by decide +kernel
theorem dX5_digest_167 : decode cX5_digest 167 = .ok (.invokevirtual 220, 3) := by decide +kernel
theorem dX5_digest_170 : decode cX5_digest 170 = .ok (.lload_n 1, 1) := by decide +kernel
theorem dX5_digest_171 : decode cX5_digest 171 = .ok (.ldc2_w 316, 3) := by decide +kernel
theorem dX5_digest_174 : decode cX5_digest 174 = .ok (.lmul, 1) := by decide +kernel
theorem dX5_digest_175 : decode cX5_digest 175 = .ok (.aload_n 0, 1) := by decide +kernel
theorem dX5_digest_176 : decode cX5_digest 176 = .ok (.getfield 226, 3) := by decide +kernel
theorem dX5_digest_179 : decode cX5_digest 179 = .ok (.i2l, 1) := by decide +kernel
theorem dX5_digest_180 : decode cX5_digest 180 = .ok (.ladd, 1) := by decide +kernel
theorem dX5_digest_181 : decode cX5_digest 181 = .ok (.lstore_n 1, 1) := by decide +kernel
theorem dX5_digest_182 : decode cX5_digest 182 = .ok (.iinc 3 1, 3) := by decide +kernel
theorem dX5_digest_185 : decode cX5_digest 185 = .ok (.goto (-29), 3) := by decide +kernel
theorem dX5_digest_188 : decode cX5_digest 188 = .ok (.lload_n 1, 1) := by decide +kernel
theorem dX5_digest_189 : decode cX5_digest 189 = .ok (.lreturn, 1) := by decide +kernel
theorem dX5_isOutside_0 : decode cX5_isOutside 0 = .ok (.iload_n 0, 1) := by decide +kernel
theorem dX5_isOutside_1 : decode cX5_isOutside 1 = .ok (.iload_n 1, 1) := by decide +kernel
theorem dX5_isOutside_2 : decode cX5_isOutside 2 = .ok (.if_icmp .lt 8, 3) := by decide +kernel
theorem dX5_isOutside_5 : decode cX5_isOutside 5 = .ok (.iload_n 0, 1) := by decide +kernel
theorem dX5_isOutside_6 : decode cX5_isOutside 6 = .ok (.iload_n 2, 1) := by decide +kernel
theorem dX5_isOutside_7 : decode cX5_isOutside 7 = .ok (.if_icmp .le 7, 3) := by decide +kernel
theorem dX5_isOutside_10 : decode cX5_isOutside 10 = .ok (.iconst 1, 1) := by decide +kernel
theorem dX5_isOutside_11 : decode cX5_isOutside 11 = .ok (.goto 4, 3) := by decide +kernel
theorem dX5_isOutside_14 : decode cX5_isOutside 14 = .ok (.iconst 0, 1) := by decide +kernel
theorem dX5_isOutside_15 : decode cX5_isOutside 15 = .ok (.ireturn, 1) := by decide +kernel
theorem dX5_checkKind_0 : decode cX5_checkKind 0 = .ok (.iload_n 0, 1) := by decide +kernel
theorem dX5_checkKind_1 : decode cX5_checkKind 1 = .ok (.iconst 0, 1) := by decide +kernel
theorem dX5_checkKind_2 : decode cX5_checkKind 2 = .ok (.iconst 3, 1) := by decide +kernel
theorem dX5_checkKind_3 : decode cX5_checkKind 3 = .ok (.invokestatic 50, 3) := by decide +kernel
theorem dX5_checkKind_6 : decode cX5_checkKind 6 = .ok (.ifCond .eq 14, 3) := by decide +kernel
theorem dX5_checkKind_9 : decode cX5_checkKind 9 = .ok (.new 54, 3) := by decide +kernel
theorem dX5_checkKind_12 : decode cX5_checkKind 12 = .ok (.dup, 1) := by decide +kernel
theorem dX5_checkKind_13 : decode cX5_checkKind 13 = .ok (.ldc_w 331, 3) := by decide +kernel
theorem dX5_checkKind_16 : decode cX5_checkKind 16 = .ok (.invokespecial 58, 3) := by decide +kernel
theorem dX5_checkKind_19 : decode cX5_checkKind 19 = .ok (.athrow, 1) := by decide +kernel
theorem dX5_checkKind_20 : decode cX5_checkKind 20 = .ok (.return_, 1) := by decide +kernel
theorem dX5_checkPlace_0 : decode cX5_checkPlace 0 = .ok (.aload_n 0, 1) := by decide +kernel
theorem dX5_checkPlace_1 : decode cX5_checkPlace 1 = .ok (.getfield 12, 3) := by decide +kernel
theorem dX5_checkPlace_4 : decode cX5_checkPlace 4 = .ok (.iload_n 1, 1) := by decide +kernel
theorem dX5_checkPlace_5 : decode cX5_checkPlace 5 = .ok (.invokevirtual 333, 3) := by decide +kernel
theorem dX5_checkPlace_8 : decode cX5_checkPlace 8 = .ok (.ifCond .ne 14, 3) := by decide +kernel
theorem dX5_checkPlace_11 : decode cX5_checkPlace 11 = .ok (.new 336, 3) := by decide +kernel
theorem dX5_checkPlace_14 : decode cX5_checkPlace 14 = .ok (.dup, 1) := by decide +kernel
theorem dX5_checkPlace_15 : decode cX5_checkPlace 15 = .ok (.ldc_w 338, 3) := by decide +kernel
theorem dX5_checkPlace_18 : decode cX5_checkPlace 18 = .ok (.invokespecial 340, 3) := by decide +kernel
theorem dX5_checkPlace_21 : decode cX5_checkPlace 21 = .ok (.athrow, 1) := by decide +kernel
theorem dX5_checkVehicle_0 : decode cX5_checkVehicle 0 = .ok (.iload_n 1, 1) := by decide +kernel
theorem dX5_checkVehicle_1 : decode cX5_checkVehicle 1 = .ok (.ifCond .lt 11, 3) := by decide +kernel
theorem dX5_checkVehicle_4 : decode cX5_checkVehicle 4 = .ok (.iload_n 1, 1) := by decide +kernel
theorem dX5_checkVehicle_5 : decode cX5_checkVehicle 5 = .ok (.aload_n 0, 1) := by decide +kernel
theorem dX5_checkVehicle_6 : decode cX5_checkVehicle 6 = .ok (.getfield 86, 3) := by decide +kernel
theorem dX5_checkVehicle_9 : decode cX5_checkVehicle 9 = .ok (.if_icmp .lt 14, 3) := by decide +kernel
theorem dX5_checkVehicle_12 : decode cX5_checkVehicle 12 = .ok (.new 336, 3) := by decide +kernel
theorem dX5_checkVehicle_15 : decode cX5_checkVehicle 15 = .ok (.dup, 1) := by decide +kernel
theorem dX5_checkVehicle_16 : decode cX5_checkVehicle 16 = .ok (.ldc_w 341, 3) := by decide +kernel
theorem dX5_checkVehicle_19 : decode cX5_checkVehicle 19 = .ok (.invokespecial 340, 3) := by decide +kernel
theorem dX5_checkVehicle_22 : decode cX5_checkVehicle 22 = .ok (.athrow, 1) := by decide +kernel
theorem dX5_checkStop_0 : decode cX5_checkStop 0 = .ok (.aload_n 0, 1) := by decide +kernel
theorem dX5_checkStop_1 : decode cX5_checkStop 1 = .ok (.iload_n 1, 1) := by decide +kernel
theorem dX5_checkStop_2 : decode cX5_checkStop 2 = .ok (.invokevirtual 157, 3) := by decide +kernel
theorem dX5_checkJob_0 : decode cX5_checkJob 0 = .ok (.iload_n 1, 1) := by decide +kernel
theorem dX5_checkJob_1 : decode cX5_checkJob 1 = .ok (.ifCond .lt 14, 3) := by decide +kernel
theorem dX5_checkJob_4 : decode cX5_checkJob 4 = .ok (.iload_n 1, 1) := by decide +kernel
theorem dX5_checkJob_5 : decode cX5_checkJob 5 = .ok (.aload_n 0, 1) := by decide +kernel
theorem dX5_checkJob_6 : decode cX5_checkJob 6 = .ok (.getfield 12, 3) := by decide +kernel
theorem dX5_checkJob_9 : decode cX5_checkJob 9 = .ok (.getfield 111, 3) := by decide +kernel
theorem dX5_checkJob_12 : decode cX5_checkJob 12 = .ok (.if_icmp .lt 14, 3) := by decide +kernel
theorem dX5_checkJob_15 : decode cX5_checkJob 15 = .ok (.new 336, 3) := by decide +kernel
theorem dX5_checkJob_18 : decode cX5_checkJob 18 = .ok (.dup, 1) := by decide +kernel
theorem dX5_checkJob_19 : decode cX5_checkJob 19 = .ok (.ldc_w 345, 3) := by decide +kernel
theorem dX5_checkJob_22 : decode cX5_checkJob 22 = .ok (.invokespecial 340, 3) := by decide +kernel
theorem dX5_checkJob_25 : decode cX5_checkJob 25 = .ok (.athrow, 1) := by decide +kernel
theorem dX5_areAllRight_0 : decode cX5_areAllRight 0 = .ok (.iconst 0, 1) := by decide +kernel
theorem dX5_areAllRight_1 : decode cX5_areAllRight 1 = .ok (.istore_n 1, 1) := by decide +kernel
theorem dX5_areAllRight_2 : decode cX5_areAllRight 2 = .ok (.iload_n 1, 1) := by decide +kernel
theorem dX5_areAllRight_3 : decode cX5_areAllRight 3 = .ok (.aload_n 0, 1) := by decide +kernel
theorem dX5_areAllRight_4 : decode cX5_areAllRight 4 = .ok (.getfield 86, 3) := by decide +kernel
theorem dX5_areAllRight_7 : decode cX5_areAllRight 7 = .ok (.if_icmp .ge 40, 3) := by decide +kernel
theorem dX5_areAllRight_47 : decode cX5_areAllRight 47 = .ok (.iconst 1, 1) := by decide +kernel
theorem dX5_areAllRight_48 : decode cX5_areAllRight 48 = .ok (.ireturn, 1) := by decide +kernel
theorem dX5_costOfAll_0 : decode cX5_costOfAll 0 = .ok (.iconst 0, 1) := by decide +kernel
theorem dX5_costOfAll_1 : decode cX5_costOfAll 1 = .ok (.istore_n 1, 1) := by decide +kernel
theorem dX5_costOfAll_2 : decode cX5_costOfAll 2 = .ok (.iconst 0, 1) := by decide +kernel
theorem dX5_costOfAll_3 : decode cX5_costOfAll 3 = .ok (.istore_n 2, 1) := by decide +kernel
theorem dX5_costOfAll_4 : decode cX5_costOfAll 4 = .ok (.iload_n 2, 1) := by decide +kernel
theorem dX5_costOfAll_5 : decode cX5_costOfAll 5 = .ok (.aload_n 0, 1) := by decide +kernel
theorem dX5_costOfAll_6 : decode cX5_costOfAll 6 = .ok (.getfield 86, 3) := by decide +kernel
theorem dX5_costOfAll_9 : decode cX5_costOfAll 9 = .ok (.if_icmp .ge 38, 3) := by decide +kernel
theorem dX5_costOfAll_47 : decode cX5_costOfAll 47 = .ok (.iconst 0, 1) := by decide +kernel
theorem dX5_costOfAll_48 : decode cX5_costOfAll 48 = .ok (.istore_n 2, 1) := by decide +kernel
theorem dX5_costOfAll_49 : decode cX5_costOfAll 49 = .ok (.iload_n 2, 1) := by decide +kernel
theorem dX5_costOfAll_50 : decode cX5_costOfAll 50 = .ok (.aload_n 0, 1) := by decide +kernel
theorem dX5_costOfAll_51 : decode cX5_costOfAll 51 = .ok (.getfield 12, 3) := by decide +kernel
theorem dX5_costOfAll_54 : decode cX5_costOfAll 54 = .ok (.getfield 111, 3) := by decide +kernel
theorem dX5_costOfAll_57 : decode cX5_costOfAll 57 = .ok (.if_icmp .ge 30, 3) := by decide +kernel
theorem dX5_costOfAll_87 : decode cX5_costOfAll 87 = .ok (.iload_n 1, 1) := by decide +kernel
theorem dX5_costOfAll_88 : decode cX5_costOfAll 88 = .ok (.ireturn, 1) := by decide +kernel
theorem dX5_chooseByRegret_0 : decode cX5_chooseByRegret 0 = .ok (.iconst 0, 1) := by decide +kernel
theorem dX5_chooseByRegret_1 : decode cX5_chooseByRegret 1 = .ok (.istore_n 1, 1) := by decide +kernel
theorem dX5_chooseByRegret_2 : decode cX5_chooseByRegret 2 = .ok (.iconst 0, 1) := by decide +kernel
theorem dX5_chooseByRegret_3 : decode cX5_chooseByRegret 3 = .ok (.istore_n 2, 1) := by decide +kernel
theorem dX5_chooseByRegret_4 : decode cX5_chooseByRegret 4 = .ok (.iload_n 2, 1) := by decide +kernel
theorem dX5_chooseByRegret_5 : decode cX5_chooseByRegret 5 = .ok (.aload_n 0, 1) := by decide +kernel
theorem dX5_chooseByRegret_6 : decode cX5_chooseByRegret 6 = .ok (.getfield 12, 3) := by decide +kernel
theorem dX5_chooseByRegret_9 : decode cX5_chooseByRegret 9 = .ok (.getfield 111, 3) := by decide +kernel
theorem dX5_chooseByRegret_12 : decode cX5_chooseByRegret 12 = .ok (.if_icmp .ge 97, 3) := by decide +kernel
theorem dX5_chooseByRegret_109 : decode cX5_chooseByRegret 109 = .ok (.iload_n 1, 1) := by decide +kernel
theorem dX5_chooseByRegret_110 : decode cX5_chooseByRegret 110 = .ok (.ireturn, 1) := by decide +kernel
theorem dX5_dearestJob_0 : decode cX5_dearestJob 0 = .ok (.iconst (-1), 1) := by decide +kernel
theorem dX5_dearestJob_1 : decode cX5_dearestJob 1 = .ok (.istore_n 1, 1) := by decide +kernel
theorem dX5_dearestJob_2 : decode cX5_dearestJob 2 = .ok (.iconst 0, 1) := by decide +kernel
theorem dX5_dearestJob_3 : decode cX5_dearestJob 3 = .ok (.istore_n 2, 1) := by decide +kernel
theorem dX5_dearestJob_4 : decode cX5_dearestJob 4 = .ok (.iconst 0, 1) := by decide +kernel
theorem dX5_dearestJob_5 : decode cX5_dearestJob 5 = .ok (.istore_n 3, 1) := by decide +kernel
theorem dX5_dearestJob_6 : decode cX5_dearestJob 6 = .ok (.iload_n 3, 1) := by decide +kernel
theorem dX5_dearestJob_7 : decode cX5_dearestJob 7 = .ok (.aload_n 0, 1) := by decide +kernel
theorem dX5_dearestJob_8 : decode cX5_dearestJob 8 = .ok (.getfield 12, 3) := by decide +kernel
theorem dX5_dearestJob_11 : decode cX5_dearestJob 11 = .ok (.getfield 111, 3) := by decide +kernel
theorem dX5_dearestJob_14 : decode cX5_dearestJob 14 = .ok (.if_icmp .ge 43, 3) := by decide +kernel
theorem dX5_dearestJob_57 : decode cX5_dearestJob 57 = .ok (.iload_n 1, 1) := by decide +kernel
theorem dX5_dearestJob_58 : decode cX5_dearestJob 58 = .ok (.ireturn, 1) := by decide +kernel
theorem dX5_startSearch_0 : decode cX5_startSearch 0 = .ok (.aload_n 0, 1) := by decide +kernel
theorem dX5_startSearch_1 : decode cX5_startSearch 1 = .ok (.iconst 0, 1) := by decide +kernel
theorem dX5_startSearch_2 : decode cX5_startSearch 2 = .ok (.putfield 226, 3) := by decide +kernel
theorem dX5_startSearch_5 : decode cX5_startSearch 5 = .ok (.iconst 0, 1) := by decide +kernel
theorem dX5_startSearch_6 : decode cX5_startSearch 6 = .ok (.istore_n 1, 1) := by decide +kernel
theorem dX5_startSearch_7 : decode cX5_startSearch 7 = .ok (.iload_n 1, 1) := by decide +kernel
theorem dX5_startSearch_8 : decode cX5_startSearch 8 = .ok (.aload_n 0, 1) := by decide +kernel
theorem dX5_startSearch_9 : decode cX5_startSearch 9 = .ok (.getfield 86, 3) := by decide +kernel
theorem dX5_startSearch_12 : decode cX5_startSearch 12 = .ok (.if_icmp .ge 47, 3) := by decide +kernel
theorem dX5_startSearch_59 : decode cX5_startSearch 59 = .ok (.return_, 1) := by decide +kernel
theorem dX5_searchKind_0 : decode cX5_searchKind 0 = .ok (.iload_n 1, 1) := by decide +kernel
theorem dX5_searchKind_1 : decode cX5_searchKind 1 = .ok (.tableswitch 48 0 2 #[27, 34, 41], 27) := by decide +kernel
theorem dX5_searchKind_28 : decode cX5_searchKind 28 = .ok (.aload_n 0, 1) := by decide +kernel
theorem dX5_searchKind_29 : decode cX5_searchKind 29 = .ok (.invokevirtual 414, 3) := by decide +kernel
theorem dX5_searchKind_32 : decode cX5_searchKind 32 = .ok (.goto 21, 3) := by decide +kernel
theorem dX5_searchKind_35 : decode cX5_searchKind 35 = .ok (.aload_n 0, 1) := by decide +kernel
theorem dX5_searchKind_36 : decode cX5_searchKind 36 = .ok (.invokevirtual 417, 3) := by decide +kernel
theorem dX5_searchKind_39 : decode cX5_searchKind 39 = .ok (.goto 14, 3) := by decide +kernel
theorem dX5_searchKind_42 : decode cX5_searchKind 42 = .ok (.aload_n 0, 1) := by decide +kernel
theorem dX5_searchKind_43 : decode cX5_searchKind 43 = .ok (.invokevirtual 420, 3) := by decide +kernel
theorem dX5_searchKind_46 : decode cX5_searchKind 46 = .ok (.goto 7, 3) := by decide +kernel
theorem dX5_searchKind_49 : decode cX5_searchKind 49 = .ok (.aload_n 0, 1) := by decide +kernel
theorem dX5_searchKind_50 : decode cX5_searchKind 50 = .ok (.invokevirtual 423, 3) := by decide +kernel
theorem dX5_searchKind_53 : decode cX5_searchKind 53 = .ok (.return_, 1) := by decide +kernel
theorem dX5_makeBestChange_0 : decode cX5_makeBestChange 0 = .ok (.iconst 0, 1) := by decide +kernel
theorem dX5_makeBestChange_1 : decode cX5_makeBestChange 1 = .ok (.istore_n 1, 1) := by decide +kernel
theorem dX5_makeBestChange_2 : decode cX5_makeBestChange 2 = .ok (.iload_n 1, 1) := by decide +kernel
theorem dX5_makeBestChange_3 : decode cX5_makeBestChange 3 = .ok (.aload_n 0, 1) := by decide +kernel
theorem dX5_makeBestChange_4 : decode cX5_makeBestChange 4 = .ok (.getfield 86, 3) := by decide +kernel
theorem dX5_makeBestChange_7 : decode cX5_makeBestChange 7 = .ok (.if_icmp .ge 30, 3) := by decide +kernel
theorem dX5_makeBestChange_37 : decode cX5_makeBestChange 37 = .ok (.return_, 1) := by decide +kernel
theorem dX5_searchMoves_0 : decode cX5_searchMoves 0 = .ok (.iconst 0, 1) := by decide +kernel
theorem dX5_searchMoves_1 : decode cX5_searchMoves 1 = .ok (.istore_n 1, 1) := by decide +kernel
theorem dX5_searchMoves_2 : decode cX5_searchMoves 2 = .ok (.iload_n 1, 1) := by decide +kernel
theorem dX5_searchMoves_3 : decode cX5_searchMoves 3 = .ok (.aload_n 0, 1) := by decide +kernel
theorem dX5_searchMoves_4 : decode cX5_searchMoves 4 = .ok (.getfield 12, 3) := by decide +kernel
theorem dX5_searchMoves_7 : decode cX5_searchMoves 7 = .ok (.getfield 111, 3) := by decide +kernel
theorem dX5_searchMoves_10 : decode cX5_searchMoves 10 = .ok (.if_icmp .ge 231, 3) := by decide +kernel
theorem dX5_searchMoves_241 : decode cX5_searchMoves 241 = .ok (.return_, 1) := by decide +kernel
theorem dX5_searchSwaps_0 : decode cX5_searchSwaps 0 = .ok (.iconst 0, 1) := by decide +kernel
theorem dX5_searchSwaps_1 : decode cX5_searchSwaps 1 = .ok (.istore_n 1, 1) := by decide +kernel
theorem dX5_searchSwaps_2 : decode cX5_searchSwaps 2 = .ok (.iload_n 1, 1) := by decide +kernel
theorem dX5_searchSwaps_3 : decode cX5_searchSwaps 3 = .ok (.aload_n 0, 1) := by decide +kernel
theorem dX5_searchSwaps_4 : decode cX5_searchSwaps 4 = .ok (.getfield 12, 3) := by decide +kernel
theorem dX5_searchSwaps_7 : decode cX5_searchSwaps 7 = .ok (.getfield 111, 3) := by decide +kernel
theorem dX5_searchSwaps_10 : decode cX5_searchSwaps 10 = .ok (.if_icmp .ge 156, 3) := by decide +kernel
theorem dX5_searchSwaps_166 : decode cX5_searchSwaps 166 = .ok (.return_, 1) := by decide +kernel
theorem dX5_searchTurns_0 : decode cX5_searchTurns 0 = .ok (.iconst 0, 1) := by decide +kernel
theorem dX5_searchTurns_1 : decode cX5_searchTurns 1 = .ok (.istore_n 1, 1) := by decide +kernel
theorem dX5_searchTurns_2 : decode cX5_searchTurns 2 = .ok (.iload_n 1, 1) := by decide +kernel
theorem dX5_searchTurns_3 : decode cX5_searchTurns 3 = .ok (.aload_n 0, 1) := by decide +kernel
theorem dX5_searchTurns_4 : decode cX5_searchTurns 4 = .ok (.getfield 86, 3) := by decide +kernel
theorem dX5_searchTurns_7 : decode cX5_searchTurns 7 = .ok (.if_icmp .ge 94, 3) := by decide +kernel
theorem dX5_searchTurns_101 : decode cX5_searchTurns 101 = .ok (.return_, 1) := by decide +kernel
theorem dX5_searchEnds_0 : decode cX5_searchEnds 0 = .ok (.iconst 0, 1) := by decide +kernel
theorem dX5_searchEnds_1 : decode cX5_searchEnds 1 = .ok (.istore_n 1, 1) := by decide +kernel
theorem dX5_searchEnds_2 : decode cX5_searchEnds 2 = .ok (.iload_n 1, 1) := by decide +kernel
theorem dX5_searchEnds_3 : decode cX5_searchEnds 3 = .ok (.aload_n 0, 1) := by decide +kernel
theorem dX5_searchEnds_4 : decode cX5_searchEnds 4 = .ok (.getfield 86, 3) := by decide +kernel
theorem dX5_searchEnds_7 : decode cX5_searchEnds 7 = .ok (.if_icmp .ge 165, 3) := by decide +kernel
theorem dX5_searchEnds_172 : decode cX5_searchEnds 172 = .ok (.return_, 1) := by decide +kernel
theorem dX6_init_0 : decode cX6_init 0 = .ok (.aload_n 0, 1) := by decide +kernel
theorem dX6_init_1 : decode cX6_init 1 = .ok (.invokespecial 1, 3) := by decide +kernel
theorem dX6_init_4 : decode cX6_init 4 = .ok (.aload_n 0, 1) := by decide +kernel
theorem dX6_init_5 : decode cX6_init 5 = .ok (.bipush 12, 2) := by decide +kernel
theorem dX6_init_7 : decode cX6_init 7 = .ok (.anewarray 9, 3) := by decide +kernel
theorem dX6_init_10 : decode cX6_init 10 = .ok (.putfield 11, 3) := by decide +kernel
theorem dX6_init_13 : decode cX6_init 13 = .ok (.aload_n 0, 1) := by decide +kernel
theorem dX6_init_14 : decode cX6_init 14 = .ok (.iconst 3, 1) := by decide +kernel
theorem dX6_init_15 : decode cX6_init 15 = .ok (.anewarray 9, 3) := by decide +kernel
theorem dX6_init_18 : decode cX6_init 18 = .ok (.putfield 15, 3) := by decide +kernel
theorem dX6_init_21 : decode cX6_init 21 = .ok (.aload_n 0, 1) := by decide +kernel
theorem dX6_init_22 : decode cX6_init 22 = .ok (.bipush 9, 2) := by decide +kernel
theorem dX6_init_24 : decode cX6_init 24 = .ok (.anewarray 9, 3) := by decide +kernel
theorem dX6_init_27 : decode cX6_init 27 = .ok (.putfield 18, 3) := by decide +kernel
theorem dX6_init_30 : decode cX6_init 30 = .ok (.aload_n 0, 1) := by decide +kernel
theorem dX6_init_31 : decode cX6_init 31 = .ok (.iconst 3, 1) := by decide +kernel
theorem dX6_init_32 : decode cX6_init 32 = .ok (.anewarray 9, 3) := by decide +kernel
theorem dX6_init_35 : decode cX6_init 35 = .ok (.dup, 1) := by decide +kernel
theorem dX6_init_36 : decode cX6_init 36 = .ok (.iconst 0, 1) := by decide +kernel
theorem dX6_init_37 : decode cX6_init 37 = .ok (.iconst 0, 1) := by decide +kernel
theorem dX6_init_38 : decode cX6_init 38 = .ok (.newarray .int, 2) := by decide +kernel
theorem dX6_init_40 : decode cX6_init 40 = .ok (.aastore, 1) := by decide +kernel
theorem dX6_init_41 : decode cX6_init 41 = .ok (.dup, 1) := by decide +kernel
theorem dX6_init_42 : decode cX6_init 42 = .ok (.iconst 1, 1) := by decide +kernel
theorem dX6_init_43 : decode cX6_init 43 = .ok (.iconst 0, 1) := by decide +kernel
theorem dX6_init_44 : decode cX6_init 44 = .ok (.newarray .int, 2) := by decide +kernel
theorem dX6_init_46 : decode cX6_init 46 = .ok (.aastore, 1) := by decide +kernel
theorem dX6_init_47 : decode cX6_init 47 = .ok (.dup, 1) := by decide +kernel
theorem dX6_init_48 : decode cX6_init 48 = .ok (.iconst 2, 1) := by decide +kernel
theorem dX6_init_49 : decode cX6_init 49 = .ok (.iconst 0, 1) := by decide +kernel
theorem dX6_init_50 : decode cX6_init 50 = .ok (.newarray .int, 2) := by decide +kernel
theorem dX6_init_52 : decode cX6_init 52 = .ok (.aastore, 1) := by decide +kernel
theorem dX6_init_53 : decode cX6_init 53 = .ok (.putfield 21, 3) := by decide +kernel
theorem dX6_init_56 : decode cX6_init 56 = .ok (.return_, 1) := by decide +kernel
theorem dX6_thrown_0 : decode cX6_thrown 0 = .ok (.aload_n 0, 1) := by decide +kernel
theorem dX6_thrown_1 : decode cX6_thrown 1 = .ok (.getfield 24, 3) := by decide +kernel
theorem dX6_thrown_4 : decode cX6_thrown 4 = .ok (.ireturn, 1) := by decide +kernel
theorem dX6_refuse_0 : decode cX6_refuse 0 = .ok (.aload_n 0, 1) := by decide +kernel
theorem dX6_refuse_1 : decode cX6_refuse 1 = .ok (.iload_n 1, 1) := by decide +kernel
theorem dX6_refuse_2 : decode cX6_refuse 2 = .ok (.putfield 24, 3) := by decide +kernel
theorem dX6_refuse_5 : decode cX6_refuse 5 = .ok (.iconst 0, 1) := by decide +kernel
theorem dX6_refuse_6 : decode cX6_refuse 6 = .ok (.ireturn, 1) := by decide +kernel
theorem dX6_is_0 : decode cX6_is 0 = .ok (.iload_n 0, 1) := by decide +kernel
theorem dX6_is_1 : decode cX6_is 1 = .ok (.iload_n 1, 1) := by decide +kernel
theorem dX6_is_2 : decode cX6_is 2 = .ok (.if_icmp .lt 12, 3) := by decide +kernel
theorem dX6_is_5 : decode cX6_is 5 = .ok (.iload_n 0, 1) := by decide +kernel
theorem dX6_is_6 : decode cX6_is 6 = .ok (.iload_n 2, 1) := by decide +kernel
theorem dX6_is_7 : decode cX6_is 7 = .ok (.if_icmp .gt 7, 3) := by decide +kernel
theorem dX6_is_10 : decode cX6_is 10 = .ok (.iconst 1, 1) := by decide +kernel
theorem dX6_is_11 : decode cX6_is 11 = .ok (.goto 4, 3) := by decide +kernel
theorem dX6_is_14 : decode cX6_is 14 = .ok (.iconst 0, 1) := by decide +kernel
theorem dX6_is_15 : decode cX6_is 15 = .ok (.ireturn, 1) := by decide +kernel
theorem dX6_isPlace_0 : decode cX6_isPlace 0 = .ok (.iload_n 1, 1) := by decide +kernel
theorem dX6_isPlace_1 : decode cX6_isPlace 1 = .ok (.iconst 0, 1) := by decide +kernel
theorem dX6_isPlace_2 : decode cX6_isPlace 2 = .ok (.aload_n 0, 1) := by decide +kernel
theorem dX6_isPlace_3 : decode cX6_isPlace 3 = .ok (.getfield 28, 3) := by decide +kernel
theorem dX6_isPlace_6 : decode cX6_isPlace 6 = .ok (.iconst 1, 1) := by decide +kernel
theorem dX6_isPlace_7 : decode cX6_isPlace 7 = .ok (.isub, 1) := by decide +kernel
theorem dX6_isPlace_8 : decode cX6_isPlace 8 = .ok (.invokestatic 31, 3) := by decide +kernel
theorem dX6_isPlace_11 : decode cX6_isPlace 11 = .ok (.ireturn, 1) := by decide +kernel
theorem dX6_isVehicle_0 : decode cX6_isVehicle 0 = .ok (.iload_n 1, 1) := by decide +kernel
theorem dX6_isVehicle_1 : decode cX6_isVehicle 1 = .ok (.iconst 0, 1) := by decide +kernel
theorem dX6_isVehicle_2 : decode cX6_isVehicle 2 = .ok (.aload_n 0, 1) := by decide +kernel
theorem dX6_isVehicle_3 : decode cX6_isVehicle 3 = .ok (.getfield 35, 3) := by decide +kernel
theorem dX6_isVehicle_6 : decode cX6_isVehicle 6 = .ok (.iconst 1, 1) := by decide +kernel
theorem dX6_isVehicle_7 : decode cX6_isVehicle 7 = .ok (.isub, 1) := by decide +kernel
theorem dX6_isVehicle_8 : decode cX6_isVehicle 8 = .ok (.invokestatic 31, 3) := by decide +kernel
theorem dX6_isVehicle_11 : decode cX6_isVehicle 11 = .ok (.ireturn, 1) := by decide +kernel
theorem dX6_isJob_0 : decode cX6_isJob 0 = .ok (.iload_n 1, 1) := by decide +kernel
theorem dX6_isJob_1 : decode cX6_isJob 1 = .ok (.iconst 0, 1) := by decide +kernel
theorem dX6_isJob_2 : decode cX6_isJob 2 = .ok (.aload_n 0, 1) := by decide +kernel
theorem dX6_isJob_3 : decode cX6_isJob 3 = .ok (.getfield 38, 3) := by decide +kernel
theorem dX6_isJob_6 : decode cX6_isJob 6 = .ok (.iconst 1, 1) := by decide +kernel
theorem dX6_isJob_7 : decode cX6_isJob 7 = .ok (.isub, 1) := by decide +kernel
theorem dX6_isJob_8 : decode cX6_isJob 8 = .ok (.invokestatic 31, 3) := by decide +kernel
theorem dX6_isJob_11 : decode cX6_isJob 11 = .ok (.ireturn, 1) := by decide +kernel
theorem dX6_areRight_0 : decode cX6_areRight 0 = .ok (.iconst 1, 1) := by decide +kernel
theorem dX6_areRight_1 : decode cX6_areRight 1 = .ok (.istore_n 1, 1) := by decide +kernel
theorem dX6_areRight_2 : decode cX6_areRight 2 = .ok (.iconst 0, 1) := by decide +kernel
theorem dX6_areRight_3 : decode cX6_areRight 3 = .ok (.istore_n 2, 1) := by decide +kernel
theorem dX6_areRight_4 : decode cX6_areRight 4 = .ok (.iload_n 2, 1) := by decide +kernel
theorem dX6_areRight_5 : decode cX6_areRight 5 = .ok (.aload_n 0, 1) := by decide +kernel
theorem dX6_areRight_6 : decode cX6_areRight 6 = .ok (.getfield 35, 3) := by decide +kernel
theorem dX6_areRight_9 : decode cX6_areRight 9 = .ok (.if_icmp .ge 23, 3) := by decide +kernel
theorem dX6_areRight_32 : decode cX6_areRight 32 = .ok (.iload_n 1, 1) := by decide +kernel
theorem dX6_areRight_33 : decode cX6_areRight 33 = .ok (.ireturn, 1) := by decide +kernel
theorem dX6_costOfRoutes_0 : decode cX6_costOfRoutes 0 = .ok (.iconst 0, 1) := by decide +kernel
theorem dX6_costOfRoutes_1 : decode cX6_costOfRoutes 1 = .ok (.istore_n 2, 1) := by decide +kernel
theorem dX6_costOfRoutes_2 : decode cX6_costOfRoutes 2 = .ok (.iconst 0, 1) := by decide +kernel
theorem dX6_costOfRoutes_3 : decode cX6_costOfRoutes 3 = .ok (.istore_n 3, 1) := by decide +kernel
theorem dX6_costOfRoutes_4 : decode cX6_costOfRoutes 4 = .ok (.iload_n 3, 1) := by decide +kernel
theorem dX6_costOfRoutes_5 : decode cX6_costOfRoutes 5 = .ok (.aload_n 0, 1) := by decide +kernel
theorem dX6_costOfRoutes_6 : decode cX6_costOfRoutes 6 = .ok (.getfield 35, 3) := by decide +kernel
theorem dX6_costOfRoutes_9 : decode cX6_costOfRoutes 9 = .ok (.if_icmp .ge 20, 3) := by decide +kernel
theorem dX6_costOfRoutes_29 : decode cX6_costOfRoutes 29 = .ok (.iload_n 2, 1) := by decide +kernel
theorem dX6_costOfRoutes_30 : decode cX6_costOfRoutes 30 = .ok (.ireturn, 1) := by decide +kernel
theorem dX6_lookAtMoves_0 : decode cX6_lookAtMoves 0 = .ok (.iconst 0, 1) := by decide +kernel
theorem dX6_lookAtMoves_1 : decode cX6_lookAtMoves 1 = .ok (.istore_n 1, 1) := by decide +kernel
theorem dX6_lookAtMoves_2 : decode cX6_lookAtMoves 2 = .ok (.iload_n 1, 1) := by decide +kernel
theorem dX6_lookAtMoves_3 : decode cX6_lookAtMoves 3 = .ok (.aload_n 0, 1) := by decide +kernel
theorem dX6_lookAtMoves_4 : decode cX6_lookAtMoves 4 = .ok (.getfield 38, 3) := by decide +kernel
theorem dX6_lookAtMoves_7 : decode cX6_lookAtMoves 7 = .ok (.if_icmp .ge 136, 3) := by decide +kernel
theorem dX6_lookAtMoves_143 : decode cX6_lookAtMoves 143 = .ok (.return_, 1) := by decide +kernel
theorem dX6_lookAtSwaps_0 : decode cX6_lookAtSwaps 0 = .ok (.iconst 0, 1) := by decide +kernel
theorem dX6_lookAtSwaps_1 : decode cX6_lookAtSwaps 1 = .ok (.istore_n 1, 1) := by decide +kernel
theorem dX6_lookAtSwaps_2 : decode cX6_lookAtSwaps 2 = .ok (.iload_n 1, 1) := by decide +kernel
theorem dX6_lookAtSwaps_3 : decode cX6_lookAtSwaps 3 = .ok (.aload_n 0, 1) := by decide +kernel
theorem dX6_lookAtSwaps_4 : decode cX6_lookAtSwaps 4 = .ok (.getfield 38, 3) := by decide +kernel
theorem dX6_lookAtSwaps_7 : decode cX6_lookAtSwaps 7 = .ok (.if_icmp .ge 97, 3) := by decide +kernel
theorem dX6_lookAtSwaps_104 : decode cX6_lookAtSwaps 104 = .ok (.return_, 1) := by decide +kernel
theorem dX6_lookAtTurns_0 : decode cX6_lookAtTurns 0 = .ok (.iconst 0, 1) := by decide +kernel
theorem dX6_lookAtTurns_1 : decode cX6_lookAtTurns 1 = .ok (.istore_n 1, 1) := by decide +kernel
theorem dX6_lookAtTurns_2 : decode cX6_lookAtTurns 2 = .ok (.iload_n 1, 1) := by decide +kernel
theorem dX6_lookAtTurns_3 : decode cX6_lookAtTurns 3 = .ok (.aload_n 0, 1) := by decide +kernel
theorem dX6_lookAtTurns_4 : decode cX6_lookAtTurns 4 = .ok (.getfield 35, 3) := by decide +kernel
theorem dX6_lookAtTurns_7 : decode cX6_lookAtTurns 7 = .ok (.if_icmp .ge 124, 3) := by decide +kernel
theorem dX6_lookAtTurns_131 : decode cX6_lookAtTurns 131 = .ok (.return_, 1) := by decide +kernel
theorem dX6_lookAtEnds_0 : decode cX6_lookAtEnds 0 = .ok (.iconst 0, 1) := by decide +kernel
theorem dX6_lookAtEnds_1 : decode cX6_lookAtEnds 1 = .ok (.istore_n 1, 1) := by decide +kernel
theorem dX6_lookAtEnds_2 : decode cX6_lookAtEnds 2 = .ok (.iload_n 1, 1) := by decide +kernel
theorem dX6_lookAtEnds_3 : decode cX6_lookAtEnds 3 = .ok (.aload_n 0, 1) := by decide +kernel
theorem dX6_lookAtEnds_4 : decode cX6_lookAtEnds 4 = .ok (.getfield 35, 3) := by decide +kernel
theorem dX6_lookAtEnds_7 : decode cX6_lookAtEnds 7 = .ok (.if_icmp .ge 153, 3) := by decide +kernel
theorem dX6_lookAtEnds_160 : decode cX6_lookAtEnds 160 = .ok (.return_, 1) := by decide +kernel
theorem dX6_gainOf_0 : decode cX6_gainOf 0 = .ok (.aload_n 0, 1) := by decide +kernel
theorem dX6_gainOf_1 : decode cX6_gainOf 1 = .ok (.iconst 0, 1) := by decide +kernel
theorem dX6_gainOf_2 : decode cX6_gainOf 2 = .ok (.putfield 123, 3) := by decide +kernel
theorem dX6_gainOf_5 : decode cX6_gainOf 5 = .ok (.aload_n 0, 1) := by decide +kernel
theorem dX6_gainOf_6 : decode cX6_gainOf 6 = .ok (.aload_n 0, 1) := by decide +kernel
theorem dX6_gainOf_7 : decode cX6_gainOf 7 = .ok (.getfield 21, 3) := by decide +kernel
theorem dX6_gainOf_10 : decode cX6_gainOf 10 = .ok (.putfield 126, 3) := by decide +kernel
theorem dX6_gainOf_13 : decode cX6_gainOf 13 = .ok (.iload_n 1, 1) := by decide +kernel
theorem dX6_gainOf_14 : decode cX6_gainOf 14 = .ok (.ifCond .ne 10, 3) := by decide +kernel
theorem dX6_gainOf_17 : decode cX6_gainOf 17 = .ok (.aload_n 0, 1) := by decide +kernel
theorem dX6_gainOf_18 : decode cX6_gainOf 18 = .ok (.invokevirtual 156, 3) := by decide +kernel
theorem dX6_gainOf_21 : decode cX6_gainOf 21 = .ok (.goto 31, 3) := by decide +kernel
theorem dX6_gainOf_24 : decode cX6_gainOf 24 = .ok (.iload_n 1, 1) := by decide +kernel
theorem dX6_gainOf_25 : decode cX6_gainOf 25 = .ok (.iconst 1, 1) := by decide +kernel
theorem dX6_gainOf_26 : decode cX6_gainOf 26 = .ok (.if_icmp .ne 10, 3) := by decide +kernel
theorem dX6_gainOf_29 : decode cX6_gainOf 29 = .ok (.aload_n 0, 1) := by decide +kernel
theorem dX6_gainOf_30 : decode cX6_gainOf 30 = .ok (.invokevirtual 159, 3) := by decide +kernel
theorem dX6_gainOf_33 : decode cX6_gainOf 33 = .ok (.goto 19, 3) := by decide +kernel
theorem dX6_gainOf_36 : decode cX6_gainOf 36 = .ok (.iload_n 1, 1) := by decide +kernel
theorem dX6_gainOf_37 : decode cX6_gainOf 37 = .ok (.iconst 2, 1) := by decide +kernel
theorem dX6_gainOf_38 : decode cX6_gainOf 38 = .ok (.if_icmp .ne 10, 3) := by decide +kernel
theorem dX6_gainOf_41 : decode cX6_gainOf 41 = .ok (.aload_n 0, 1) := by decide +kernel
theorem dX6_gainOf_42 : decode cX6_gainOf 42 = .ok (.invokevirtual 162, 3) := by decide +kernel
theorem dX6_gainOf_45 : decode cX6_gainOf 45 = .ok (.goto 7, 3) := by decide +kernel
theorem dX6_gainOf_48 : decode cX6_gainOf 48 = .ok (.aload_n 0, 1) := by decide +kernel
theorem dX6_gainOf_49 : decode cX6_gainOf 49 = .ok (.invokevirtual 165, 3) := by decide +kernel
theorem dX6_gainOf_52 : decode cX6_gainOf 52 = .ok (.aload_n 0, 1) := by decide +kernel
theorem dX6_gainOf_53 : decode cX6_gainOf 53 = .ok (.getfield 123, 3) := by decide +kernel
theorem dX6_gainOf_56 : decode cX6_gainOf 56 = .ok (.ireturn, 1) := by decide +kernel
theorem dX6_make_0 : decode cX6_make 0 = .ok (.aload_n 0, 1) := by decide +kernel
theorem dX6_make_1 : decode cX6_make 1 = .ok (.iload_n 1, 1) := by decide +kernel
theorem dX6_make_2 : decode cX6_make 2 = .ok (.invokevirtual 168, 3) := by decide +kernel
theorem dX6_make_5 : decode cX6_make 5 = .ok (.istore_n 2, 1) := by decide +kernel
theorem dX6_make_6 : decode cX6_make 6 = .ok (.aload_n 0, 1) := by decide +kernel
theorem dX6_make_7 : decode cX6_make 7 = .ok (.aload_n 0, 1) := by decide +kernel
theorem dX6_make_8 : decode cX6_make 8 = .ok (.getfield 126, 3) := by decide +kernel
theorem dX6_make_11 : decode cX6_make 11 = .ok (.putfield 21, 3) := by decide +kernel
theorem dX6_make_14 : decode cX6_make 14 = .ok (.iload_n 2, 1) := by decide +kernel
theorem dX6_make_15 : decode cX6_make 15 = .ok (.ireturn, 1) := by decide +kernel
theorem dX6_addPlace_0 : decode cX6_addPlace 0 = .ok (.aload_n 0, 1) := by decide +kernel
theorem dX6_addPlace_1 : decode cX6_addPlace 1 = .ok (.iconst 0, 1) := by decide +kernel
theorem dX6_addPlace_2 : decode cX6_addPlace 2 = .ok (.putfield 24, 3) := by decide +kernel
theorem dX6_addPlace_5 : decode cX6_addPlace 5 = .ok (.iload_n 1, 1) := by decide +kernel
theorem dX6_addPlace_6 : decode cX6_addPlace 6 = .ok (.iconst 0, 1) := by decide +kernel
theorem dX6_addPlace_7 : decode cX6_addPlace 7 = .ok (.bipush 60, 2) := by decide +kernel
theorem dX6_addPlace_9 : decode cX6_addPlace 9 = .ok (.invokestatic 31, 3) := by decide +kernel
theorem dX6_addPlace_12 : decode cX6_addPlace 12 = .ok (.ifCond .eq 13, 3) := by decide +kernel
theorem dX6_addPlace_15 : decode cX6_addPlace 15 = .ok (.iload_n 2, 1) := by decide +kernel
theorem dX6_addPlace_16 : decode cX6_addPlace 16 = .ok (.iconst 0, 1) := by decide +kernel
theorem dX6_addPlace_17 : decode cX6_addPlace 17 = .ok (.bipush 60, 2) := by decide +kernel
theorem dX6_addPlace_19 : decode cX6_addPlace 19 = .ok (.invokestatic 31, 3) := by decide +kernel
theorem dX6_addPlace_22 : decode cX6_addPlace 22 = .ok (.ifCond .ne 9, 3) := by decide +kernel
theorem dX6_addPlace_25 : decode cX6_addPlace 25 = .ok (.aload_n 0, 1) := by decide +kernel
theorem dX6_addPlace_26 : decode cX6_addPlace 26 = .ok (.iconst 1, 1) := by decide +kernel
theorem dX6_addPlace_27 : decode cX6_addPlace 27 = .ok (.invokevirtual 171, 3) := by decide +kernel
theorem dX6_addPlace_30 : decode cX6_addPlace 30 = .ok (.ireturn, 1) := by decide +kernel
theorem dX6_addPlace_31 : decode cX6_addPlace 31 = .ok (.aload_n 0, 1) := by decide +kernel
theorem dX6_addPlace_32 : decode cX6_addPlace 32 = .ok (.getfield 28, 3) := by decide +kernel
theorem dX6_addPlace_35 : decode cX6_addPlace 35 = .ok (.bipush 12, 2) := by decide +kernel
theorem dX6_addPlace_37 : decode cX6_addPlace 37 = .ok (.if_icmp .ne 9, 3) := by decide +kernel
theorem dX6_addPlace_46 : decode cX6_addPlace 46 = .ok (.iconst 2, 1) := by decide +kernel
theorem dX6_addPlace_47 : decode cX6_addPlace 47 = .ok (.newarray .int, 2) := by decide +kernel
theorem dX6_addPlace_49 : decode cX6_addPlace 49 = .ok (.dup, 1) := by decide +kernel
theorem dX6_addPlace_50 : decode cX6_addPlace 50 = .ok (.iconst 0, 1) := by decide +kernel
theorem dX6_addPlace_51 : decode cX6_addPlace 51 = .ok (.iload_n 1, 1) := by decide +kernel
theorem dX6_addPlace_52 : decode cX6_addPlace 52 = .ok (.iastore, 1) := by decide +kernel
theorem dX6_addPlace_53 : decode cX6_addPlace 53 = .ok (.dup, 1) := by decide +kernel
theorem dX6_addPlace_54 : decode cX6_addPlace 54 = .ok (.iconst 1, 1) := by decide +kernel
theorem dX6_addPlace_55 : decode cX6_addPlace 55 = .ok (.iload_n 2, 1) := by decide +kernel
theorem dX6_addPlace_56 : decode cX6_addPlace 56 = .ok (.iastore, 1) := by decide +kernel
theorem dX6_addPlace_57 : decode cX6_addPlace 57 = .ok (.astore_n 3, 1) := by decide +kernel
theorem dX6_addPlace_58 : decode cX6_addPlace 58 = .ok (.aload_n 0, 1) := by decide +kernel
theorem dX6_addPlace_59 : decode cX6_addPlace 59 = .ok (.getfield 11, 3) := by decide +kernel
theorem dX6_addPlace_62 : decode cX6_addPlace 62 = .ok (.aload_n 0, 1) := by decide +kernel
theorem dX6_addPlace_63 : decode cX6_addPlace 63 = .ok (.getfield 28, 3) := by decide +kernel
theorem dX6_addPlace_66 : decode cX6_addPlace 66 = .ok (.aload_n 3, 1) := by decide +kernel
theorem dX6_addPlace_67 : decode cX6_addPlace 67 = .ok (.aastore, 1) := by decide +kernel
theorem dX6_addPlace_68 : decode cX6_addPlace 68 = .ok (.aload_n 0, 1) := by decide +kernel
theorem dX6_addPlace_69 : decode cX6_addPlace 69 = .ok (.dup, 1) := by decide +kernel
theorem dX6_addPlace_70 : decode cX6_addPlace 70 = .ok (.getfield 28, 3) := by decide +kernel
theorem dX6_addPlace_73 : decode cX6_addPlace 73 = .ok (.iconst 1, 1) := by decide +kernel
theorem dX6_addPlace_74 : decode cX6_addPlace 74 = .ok (.iadd, 1) := by decide +kernel
theorem dX6_addPlace_75 : decode cX6_addPlace 75 = .ok (.putfield 28, 3) := by decide +kernel
theorem dX6_addPlace_78 : decode cX6_addPlace 78 = .ok (.aload_n 0, 1) := by decide +kernel
theorem dX6_addPlace_79 : decode cX6_addPlace 79 = .ok (.getfield 28, 3) := by decide +kernel
theorem dX6_addPlace_82 : decode cX6_addPlace 82 = .ok (.iconst 1, 1) := by decide +kernel
theorem dX6_addPlace_83 : decode cX6_addPlace 83 = .ok (.isub, 1) := by decide +kernel
theorem dX6_addPlace_84 : decode cX6_addPlace 84 = .ok (.ireturn, 1) := by decide +kernel
theorem dX6_addVehicle_0 : decode cX6_addVehicle 0 = .ok (.aload_n 0, 1) := by decide +kernel
theorem dX6_addVehicle_1 : decode cX6_addVehicle 1 = .ok (.iconst 0, 1) := by decide +kernel
theorem dX6_addVehicle_2 : decode cX6_addVehicle 2 = .ok (.putfield 24, 3) := by decide +kernel
theorem dX6_addVehicle_5 : decode cX6_addVehicle 5 = .ok (.aload_n 0, 1) := by decide +kernel
theorem dX6_addVehicle_6 : decode cX6_addVehicle 6 = .ok (.iload_n 1, 1) := by decide +kernel
theorem dX6_addVehicle_7 : decode cX6_addVehicle 7 = .ok (.invokevirtual 174, 3) := by decide +kernel
theorem dX6_addVehicle_10 : decode cX6_addVehicle 10 = .ok (.ifCond .ne 9, 3) := by decide +kernel
theorem dX6_addVehicle_13 : decode cX6_addVehicle 13 = .ok (.aload_n 0, 1) := by decide +kernel
theorem dX6_addVehicle_14 : decode cX6_addVehicle 14 = .ok (.iconst 1, 1) := by decide +kernel
theorem dX6_addVehicle_15 : decode cX6_addVehicle 15 = .ok (.invokevirtual 171, 3) := by decide +kernel
theorem dX6_addVehicle_18 : decode cX6_addVehicle 18 = .ok (.ireturn, 1) := by decide +kernel
theorem dX6_addJob_0 : decode cX6_addJob 0 = .ok (.aload_n 0, 1) := by decide +kernel
theorem dX6_addJob_1 : decode cX6_addJob 1 = .ok (.iconst 0, 1) := by decide +kernel
theorem dX6_addJob_2 : decode cX6_addJob 2 = .ok (.putfield 24, 3) := by decide +kernel
theorem dX6_addJob_5 : decode cX6_addJob 5 = .ok (.aload_n 0, 1) := by decide +kernel
theorem dX6_addJob_6 : decode cX6_addJob 6 = .ok (.iload_n 1, 1) := by decide +kernel
theorem dX6_addJob_7 : decode cX6_addJob 7 = .ok (.invokevirtual 174, 3) := by decide +kernel
theorem dX6_addJob_10 : decode cX6_addJob 10 = .ok (.ifCond .eq 11, 3) := by decide +kernel
theorem dX6_addJob_21 : decode cX6_addJob 21 = .ok (.aload_n 0, 1) := by decide +kernel
theorem dX6_addJob_22 : decode cX6_addJob 22 = .ok (.iconst 1, 1) := by decide +kernel
theorem dX6_addJob_23 : decode cX6_addJob 23 = .ok (.invokevirtual 171, 3) := by decide +kernel
theorem dX6_addJob_26 : decode cX6_addJob 26 = .ok (.ireturn, 1) := by decide +kernel
theorem dX6_setHours_0 : decode cX6_setHours 0 = .ok (.aload_n 0, 1) := by decide +kernel
theorem dX6_setHours_1 : decode cX6_setHours 1 = .ok (.aload_n 0, 1) := by decide +kernel
theorem dX6_setHours_2 : decode cX6_setHours 2 = .ok (.iload_n 1, 1) := by decide +kernel
theorem dX6_setHours_3 : decode cX6_setHours 3 = .ok (.invokevirtual 177, 3) := by decide +kernel
theorem dX6_setHours_6 : decode cX6_setHours 6 = .ok (.ifCond .ne 7, 3) := by decide +kernel
theorem dX6_setHours_9 : decode cX6_setHours 9 = .ok (.iconst 1, 1) := by decide +kernel
theorem dX6_setHours_10 : decode cX6_setHours 10 = .ok (.goto 43, 3) := by decide +kernel
theorem dX6_setHours_53 : decode cX6_setHours 53 = .ok (.putfield 24, 3) := by decide +kernel
theorem dX6_setHours_56 : decode cX6_setHours 56 = .ok (.aload_n 0, 1) := by decide +kernel
theorem dX6_setHours_57 : decode cX6_setHours 57 = .ok (.getfield 24, 3) := by decide +kernel
theorem dX6_setHours_60 : decode cX6_setHours 60 = .ok (.ifCond .le 5, 3) := by decide +kernel
theorem dX6_setHours_63 : decode cX6_setHours 63 = .ok (.iconst 0, 1) := by decide +kernel
theorem dX6_setHours_64 : decode cX6_setHours 64 = .ok (.ireturn, 1) := by decide +kernel
theorem dX6_insert_0 : decode cX6_insert 0 = .ok (.aload_n 0, 1) := by decide +kernel
theorem dX6_insert_1 : decode cX6_insert 1 = .ok (.iconst 0, 1) := by decide +kernel
theorem dX6_insert_2 : decode cX6_insert 2 = .ok (.putfield 24, 3) := by decide +kernel
theorem dX6_insert_5 : decode cX6_insert 5 = .ok (.aload_n 0, 1) := by decide +kernel
theorem dX6_insert_6 : decode cX6_insert 6 = .ok (.iload_n 1, 1) := by decide +kernel
theorem dX6_insert_7 : decode cX6_insert 7 = .ok (.invokevirtual 177, 3) := by decide +kernel
theorem dX6_insert_10 : decode cX6_insert 10 = .ok (.ifCond .ne 9, 3) := by decide +kernel
theorem dX6_insert_13 : decode cX6_insert 13 = .ok (.aload_n 0, 1) := by decide +kernel
theorem dX6_insert_14 : decode cX6_insert 14 = .ok (.iconst 1, 1) := by decide +kernel
theorem dX6_insert_15 : decode cX6_insert 15 = .ok (.invokevirtual 171, 3) := by decide +kernel
theorem dX6_insert_18 : decode cX6_insert 18 = .ok (.ireturn, 1) := by decide +kernel
theorem dX6_insertAt_0 : decode cX6_insertAt 0 = .ok (.aload_n 0, 1) := by decide +kernel
theorem dX6_insertAt_1 : decode cX6_insertAt 1 = .ok (.iconst 0, 1) := by decide +kernel
theorem dX6_insertAt_2 : decode cX6_insertAt 2 = .ok (.putfield 24, 3) := by decide +kernel
theorem dX6_insertAt_5 : decode cX6_insertAt 5 = .ok (.aload_n 0, 1) := by decide +kernel
theorem dX6_insertAt_6 : decode cX6_insertAt 6 = .ok (.iload_n 1, 1) := by decide +kernel
theorem dX6_insertAt_7 : decode cX6_insertAt 7 = .ok (.invokevirtual 177, 3) := by decide +kernel
theorem dX6_insertAt_10 : decode cX6_insertAt 10 = .ok (.ifCond .eq 11, 3) := by decide +kernel
theorem dX6_insertAt_21 : decode cX6_insertAt 21 = .ok (.aload_n 0, 1) := by decide +kernel
theorem dX6_insertAt_22 : decode cX6_insertAt 22 = .ok (.iconst 1, 1) := by decide +kernel
theorem dX6_insertAt_23 : decode cX6_insertAt 23 = .ok (.invokevirtual 171, 3) := by decide +kernel
theorem dX6_insertAt_26 : decode cX6_insertAt 26 = .ok (.ireturn, 1) := by decide +kernel
theorem dX6_take_0 : decode cX6_take 0 = .ok (.aload_n 0, 1) := by decide +kernel
theorem dX6_take_1 : decode cX6_take 1 = .ok (.iconst 0, 1) := by decide +kernel
theorem dX6_take_2 : decode cX6_take 2 = .ok (.putfield 24, 3) := by decide +kernel
theorem dX6_take_5 : decode cX6_take 5 = .ok (.aload_n 0, 1) := by decide +kernel
theorem dX6_take_6 : decode cX6_take 6 = .ok (.iload_n 1, 1) := by decide +kernel
theorem dX6_take_7 : decode cX6_take 7 = .ok (.invokevirtual 177, 3) := by decide +kernel
theorem dX6_take_10 : decode cX6_take 10 = .ok (.ifCond .ne 9, 3) := by decide +kernel
theorem dX6_take_13 : decode cX6_take 13 = .ok (.aload_n 0, 1) := by decide +kernel
theorem dX6_take_14 : decode cX6_take 14 = .ok (.iconst 1, 1) := by decide +kernel
theorem dX6_take_15 : decode cX6_take 15 = .ok (.invokevirtual 171, 3) := by decide +kernel
theorem dX6_take_18 : decode cX6_take 18 = .ok (.ireturn, 1) := by decide +kernel
theorem dX6_nextToPut_0 : decode cX6_nextToPut 0 = .ok (.iconst 0, 1) := by decide +kernel
theorem dX6_nextToPut_1 : decode cX6_nextToPut 1 = .ok (.newarray .int, 2) := by decide +kernel
theorem dX6_nextToPut_3 : decode cX6_nextToPut 3 = .ok (.astore_n 1, 1) := by decide +kernel
theorem dX6_nextToPut_4 : decode cX6_nextToPut 4 = .ok (.iconst 0, 1) := by decide +kernel
theorem dX6_nextToPut_5 : decode cX6_nextToPut 5 = .ok (.istore_n 2, 1) := by decide +kernel
theorem dX6_nextToPut_6 : decode cX6_nextToPut 6 = .ok (.iconst 0, 1) := by decide +kernel
theorem dX6_nextToPut_7 : decode cX6_nextToPut 7 = .ok (.istore_n 3, 1) := by decide +kernel
theorem dX6_nextToPut_8 : decode cX6_nextToPut 8 = .ok (.iload_n 3, 1) := by decide +kernel
theorem dX6_nextToPut_9 : decode cX6_nextToPut 9 = .ok (.aload_n 0, 1) := by decide +kernel
theorem dX6_nextToPut_10 : decode cX6_nextToPut 10 = .ok (.getfield 38, 3) := by decide +kernel
theorem dX6_nextToPut_13 : decode cX6_nextToPut 13 = .ok (.if_icmp .ge 137, 3) := by decide +kernel
theorem dX6_nextToPut_150 : decode cX6_nextToPut 150 = .ok (.aload_n 1, 1) := by decide +kernel
theorem dX6_nextToPut_151 : decode cX6_nextToPut 151 = .ok (.areturn, 1) := by decide +kernel
theorem dX6_rebuild_0 : decode cX6_rebuild 0 = .ok (.aload_n 0, 1) := by decide +kernel
theorem dX6_rebuild_1 : decode cX6_rebuild 1 = .ok (.iconst 0, 1) := by decide +kernel
theorem dX6_rebuild_2 : decode cX6_rebuild 2 = .ok (.putfield 24, 3) := by decide +kernel
theorem dX6_rebuild_5 : decode cX6_rebuild 5 = .ok (.iconst 0, 1) := by decide +kernel
theorem dX6_rebuild_6 : decode cX6_rebuild 6 = .ok (.istore_n 1, 1) := by decide +kernel
theorem dX6_rebuild_7 : decode cX6_rebuild 7 = .ok (.aload_n 0, 1) := by decide +kernel
theorem dX6_rebuild_8 : decode cX6_rebuild 8 = .ok (.invokevirtual 203, 3) := by decide +kernel
theorem dX6_rebuild_11 : decode cX6_rebuild 11 = .ok (.astore_n 2, 1) := by decide +kernel
theorem dX6_rebuild_12 : decode cX6_rebuild 12 = .ok (.aload_n 2, 1) := by decide +kernel
theorem dX6_rebuild_13 : decode cX6_rebuild 13 = .ok (.arraylength, 1) := by decide +kernel
theorem dX6_rebuild_14 : decode cX6_rebuild 14 = .ok (.ifCond .le 28, 3) := by decide +kernel
theorem dX6_rebuild_42 : decode cX6_rebuild 42 = .ok (.iload_n 1, 1) := by decide +kernel
theorem dX6_rebuild_43 : decode cX6_rebuild 43 = .ok (.ireturn, 1) := by decide +kernel
theorem dX6_ruin_0 : decode cX6_ruin 0 = .ok (.aload_n 0, 1) := by decide +kernel
theorem dX6_ruin_1 : decode cX6_ruin 1 = .ok (.iconst 0, 1) := by decide +kernel
theorem dX6_ruin_2 : decode cX6_ruin 2 = .ok (.putfield 24, 3) := by decide +kernel
theorem dX6_ruin_5 : decode cX6_ruin 5 = .ok (.iload_n 1, 1) := by decide +kernel
theorem dX6_ruin_6 : decode cX6_ruin 6 = .ok (.iconst 1, 1) := by decide +kernel
theorem dX6_ruin_7 : decode cX6_ruin 7 = .ok (.bipush 9, 2) := by decide +kernel
theorem dX6_ruin_9 : decode cX6_ruin 9 = .ok (.invokestatic 31, 3) := by decide +kernel
theorem dX6_ruin_12 : decode cX6_ruin 12 = .ok (.ifCond .ne 9, 3) := by decide +kernel
theorem dX6_ruin_15 : decode cX6_ruin 15 = .ok (.aload_n 0, 1) := by decide +kernel
theorem dX6_ruin_16 : decode cX6_ruin 16 = .ok (.iconst 1, 1) := by decide +kernel
theorem dX6_ruin_17 : decode cX6_ruin 17 = .ok (.invokevirtual 171, 3) := by decide +kernel
theorem dX6_ruin_20 : decode cX6_ruin 20 = .ok (.ireturn, 1) := by decide +kernel
theorem dX6_ruin_21 : decode cX6_ruin 21 = .ok (.iconst 0, 1) := by decide +kernel
theorem dX6_ruin_22 : decode cX6_ruin 22 = .ok (.istore_n 2, 1) := by decide +kernel
theorem dX6_ruin_23 : decode cX6_ruin 23 = .ok (.iload_n 2, 1) := by decide +kernel
theorem dX6_ruin_24 : decode cX6_ruin 24 = .ok (.iload_n 1, 1) := by decide +kernel
theorem dX6_ruin_25 : decode cX6_ruin 25 = .ok (.if_icmp .ge 83, 3) := by decide +kernel
theorem dX6_ruin_28 : decode cX6_ruin 28 = .ok (.iconst (-1), 1) := by decide +kernel
theorem dX6_ruin_29 : decode cX6_ruin 29 = .ok (.istore_n 3, 1) := by decide +kernel
theorem dX6_ruin_30 : decode cX6_ruin 30 = .ok (.iconst 0, 1) := by decide +kernel
theorem dX6_ruin_31 : decode cX6_ruin 31 = .ok (.istore 4, 2) := by decide +kernel
theorem dX6_ruin_33 : decode cX6_ruin 33 = .ok (.iload 4, 2) := by decide +kernel
theorem dX6_ruin_35 : decode cX6_ruin 35 = .ok (.aload_n 0, 1) := by decide +kernel
theorem dX6_ruin_36 : decode cX6_ruin 36 = .ok (.getfield 38, 3) := by decide +kernel
theorem dX6_ruin_39 : decode cX6_ruin 39 = .ok (.if_icmp .ge 50, 3) := by decide +kernel
theorem dX6_ruin_89 : decode cX6_ruin 89 = .ok (.iload_n 3, 1) := by decide +kernel
theorem dX6_ruin_90 : decode cX6_ruin 90 = .ok (.iconst (-1), 1) := by decide +kernel
theorem dX6_ruin_91 : decode cX6_ruin 91 = .ok (.if_icmp .ne 5, 3) := by decide +kernel
theorem dX6_ruin_94 : decode cX6_ruin 94 = .ok (.iload_n 2, 1) := by decide +kernel
theorem dX6_ruin_95 : decode cX6_ruin 95 = .ok (.ireturn, 1) := by decide +kernel
theorem dX6_change_0 : decode cX6_change 0 = .ok (.aload_n 0, 1) := by decide +kernel
theorem dX6_change_1 : decode cX6_change 1 = .ok (.iconst 0, 1) := by decide +kernel
theorem dX6_change_2 : decode cX6_change 2 = .ok (.putfield 24, 3) := by decide +kernel
theorem dX6_change_5 : decode cX6_change 5 = .ok (.iload_n 1, 1) := by decide +kernel
theorem dX6_change_6 : decode cX6_change 6 = .ok (.iconst 0, 1) := by decide +kernel
theorem dX6_change_7 : decode cX6_change 7 = .ok (.iconst 3, 1) := by decide +kernel
theorem dX6_change_8 : decode cX6_change 8 = .ok (.invokestatic 31, 3) := by decide +kernel
theorem dX6_change_11 : decode cX6_change 11 = .ok (.ifCond .eq 11, 3) := by decide +kernel
theorem dX6_change_14 : decode cX6_change 14 = .ok (.aload_n 0, 1) := by decide +kernel
theorem dX6_change_15 : decode cX6_change 15 = .ok (.iload_n 1, 1) := by decide +kernel
theorem dX6_change_16 : decode cX6_change 16 = .ok (.invokevirtual 210, 3) := by decide +kernel
theorem dX6_change_19 : decode cX6_change 19 = .ok (.goto 8, 3) := by decide +kernel
theorem dX6_change_22 : decode cX6_change 22 = .ok (.aload_n 0, 1) := by decide +kernel
theorem dX6_change_23 : decode cX6_change 23 = .ok (.iconst 1, 1) := by decide +kernel
theorem dX6_change_24 : decode cX6_change 24 = .ok (.invokevirtual 171, 3) := by decide +kernel
theorem dX6_change_27 : decode cX6_change 27 = .ok (.ireturn, 1) := by decide +kernel
theorem dX6_improve_0 : decode cX6_improve 0 = .ok (.aload_n 0, 1) := by decide +kernel
theorem dX6_improve_1 : decode cX6_improve 1 = .ok (.iconst 0, 1) := by decide +kernel
theorem dX6_improve_2 : decode cX6_improve 2 = .ok (.putfield 24, 3) := by decide +kernel
theorem dX6_improve_5 : decode cX6_improve 5 = .ok (.iload_n 1, 1) := by decide +kernel
theorem dX6_improve_6 : decode cX6_improve 6 = .ok (.iconst 1, 1) := by decide +kernel
theorem dX6_improve_7 : decode cX6_improve 7 = .ok (.bipush 10, 2) := by decide +kernel
theorem dX6_improve_9 : decode cX6_improve 9 = .ok (.invokestatic 31, 3) := by decide +kernel
theorem dX6_improve_12 : decode cX6_improve 12 = .ok (.ifCond .ne 9, 3) := by decide +kernel
theorem dX6_improve_15 : decode cX6_improve 15 = .ok (.aload_n 0, 1) := by decide +kernel
theorem dX6_improve_16 : decode cX6_improve 16 = .ok (.iconst 1, 1) := by decide +kernel
theorem dX6_improve_17 : decode cX6_improve 17 = .ok (.invokevirtual 171, 3) := by decide +kernel
theorem dX6_improve_20 : decode cX6_improve 20 = .ok (.ireturn, 1) := by decide +kernel
theorem dX6_improve_21 : decode cX6_improve 21 = .ok (.iconst 0, 1) := by decide +kernel
theorem dX6_improve_22 : decode cX6_improve 22 = .ok (.istore_n 2, 1) := by decide +kernel
theorem dX6_improve_23 : decode cX6_improve 23 = .ok (.iconst 0, 1) := by decide +kernel
theorem dX6_improve_24 : decode cX6_improve 24 = .ok (.istore_n 3, 1) := by decide +kernel
theorem dX6_improve_25 : decode cX6_improve 25 = .ok (.iload_n 3, 1) := by decide +kernel
theorem dX6_improve_26 : decode cX6_improve 26 = .ok (.iload_n 1, 1) := by decide +kernel
theorem dX6_improve_27 : decode cX6_improve 27 = .ok (.if_icmp .ge 66, 3) := by decide +kernel
theorem dX6_improve_30 : decode cX6_improve 30 = .ok (.iconst 0, 1) := by decide +kernel
theorem dX6_improve_31 : decode cX6_improve 31 = .ok (.istore 4, 2) := by decide +kernel
theorem dX6_improve_33 : decode cX6_improve 33 = .ok (.iconst 1, 1) := by decide +kernel
theorem dX6_improve_34 : decode cX6_improve 34 = .ok (.istore 5, 2) := by decide +kernel
theorem dX6_improve_36 : decode cX6_improve 36 = .ok (.iload 5, 2) := by decide +kernel
theorem dX6_improve_38 : decode cX6_improve 38 = .ok (.iconst 4, 1) := by decide +kernel
theorem dX6_improve_39 : decode cX6_improve 39 = .ok (.if_icmp .ge 28, 3) := by decide +kernel
theorem dX6_improve_42 : decode cX6_improve 42 = .ok (.aload_n 0, 1) := by decide +kernel
theorem dX6_improve_43 : decode cX6_improve 43 = .ok (.iload 5, 2) := by decide +kernel
theorem dX6_improve_45 : decode cX6_improve 45 = .ok (.invokevirtual 168, 3) := by decide +kernel
theorem dX6_improve_48 : decode cX6_improve 48 = .ok (.aload_n 0, 1) := by decide +kernel
theorem dX6_improve_49 : decode cX6_improve 49 = .ok (.iload 4, 2) := by decide +kernel
theorem dX6_improve_51 : decode cX6_improve 51 = .ok (.invokevirtual 168, 3) := by decide +kernel
theorem dX6_improve_54 : decode cX6_improve 54 = .ok (.if_icmp .le 7, 3) := by decide +kernel
theorem dX6_improve_61 : decode cX6_improve 61 = .ok (.iinc 5 1, 3) := by decide +kernel
theorem dX6_improve_64 : decode cX6_improve 64 = .ok (.goto (-28), 3) := by decide +kernel
theorem dX6_improve_67 : decode cX6_improve 67 = .ok (.aload_n 0, 1) := by decide +kernel
theorem dX6_improve_68 : decode cX6_improve 68 = .ok (.iload 4, 2) := by decide +kernel
theorem dX6_improve_70 : decode cX6_improve 70 = .ok (.invokevirtual 168, 3) := by decide +kernel
theorem dX6_improve_73 : decode cX6_improve 73 = .ok (.ifCond .ne 5, 3) := by decide +kernel
theorem dX6_improve_76 : decode cX6_improve 76 = .ok (.iload_n 2, 1) := by decide +kernel
theorem dX6_improve_77 : decode cX6_improve 77 = .ok (.ireturn, 1) := by decide +kernel
theorem dX6_repair_0 : decode cX6_repair 0 = .ok (.aload_n 0, 1) := by decide +kernel
theorem dX6_repair_1 : decode cX6_repair 1 = .ok (.iconst 0, 1) := by decide +kernel
theorem dX6_repair_2 : decode cX6_repair 2 = .ok (.putfield 24, 3) := by decide +kernel
theorem dX6_repair_5 : decode cX6_repair 5 = .ok (.aload_n 0, 1) := by decide +kernel
theorem dX6_repair_6 : decode cX6_repair 6 = .ok (.iload_n 1, 1) := by decide +kernel
theorem dX6_repair_7 : decode cX6_repair 7 = .ok (.invokevirtual 191, 3) := by decide +kernel
theorem dX6_repair_10 : decode cX6_repair 10 = .ok (.ifCond .ne 9, 3) := by decide +kernel
theorem dX6_repair_13 : decode cX6_repair 13 = .ok (.aload_n 0, 1) := by decide +kernel
theorem dX6_repair_14 : decode cX6_repair 14 = .ok (.iconst 1, 1) := by decide +kernel
theorem dX6_repair_15 : decode cX6_repair 15 = .ok (.invokevirtual 171, 3) := by decide +kernel
theorem dX6_repair_18 : decode cX6_repair 18 = .ok (.ireturn, 1) := by decide +kernel
theorem dX6_setNow_0 : decode cX6_setNow 0 = .ok (.iconst 0, 1) := by decide +kernel
theorem dX6_setNow_1 : decode cX6_setNow 1 = .ok (.istore_n 1, 1) := by decide +kernel
theorem dX6_setNow_2 : decode cX6_setNow 2 = .ok (.iconst 0, 1) := by decide +kernel
theorem dX6_setNow_3 : decode cX6_setNow 3 = .ok (.istore_n 2, 1) := by decide +kernel
theorem dX6_setNow_4 : decode cX6_setNow 4 = .ok (.iload_n 2, 1) := by decide +kernel
theorem dX6_setNow_5 : decode cX6_setNow 5 = .ok (.aload_n 0, 1) := by decide +kernel
theorem dX6_setNow_6 : decode cX6_setNow 6 = .ok (.getfield 35, 3) := by decide +kernel
theorem dX6_setNow_9 : decode cX6_setNow 9 = .ok (.if_icmp .ge 23, 3) := by decide +kernel
theorem dX6_setNow_32 : decode cX6_setNow 32 = .ok (.iload_n 1, 1) := by decide +kernel
theorem dX6_setNow_33 : decode cX6_setNow 33 = .ok (.ireturn, 1) := by decide +kernel
theorem dX6_advance_0 : decode cX6_advance 0 = .ok (.aload_n 0, 1) := by decide +kernel
