theorem dl_2348 : decode code 2348 = .ok (.istore 6, 2) := by decide +kernel
theorem dl_2350 : decode code 2350 = .ok (.aload_n 2, 1) := by decide +kernel
theorem dl_2351 : decode code 2351 = .ok (.invokevirtual 131, 3) := by decide +kernel
theorem dl_2354 : decode code 2354 = .ok (.iload 5, 2) := by decide +kernel
theorem dl_2356 : decode code 2356 = .ok (.if_icmp .eq 5, 3) := by decide +kernel
theorem dl_2359 : decode code 2359 = .ok (.iconst 0, 1) := by decide +kernel
theorem dl_2360 : decode code 2360 = .ok (.ireturn, 1) := by decide +kernel
theorem dl_2361 : decode code 2361 = .ok (.iload 5, 2) := by decide +kernel
theorem dl_2363 : decode code 2363 = .ok (.ifCond .ne 22, 3) := by decide +kernel
theorem dl_2366 : decode code 2366 = .ok (.aload_n 3, 1) := by decide +kernel
theorem dl_2367 : decode code 2367 = .ok (.iconst 0, 1) := by decide +kernel
theorem dl_2368 : decode code 2368 = .ok (.laload, 1) := by decide +kernel
theorem dl_2369 : decode code 2369 = .ok (.iload 6, 2) := by decide +kernel
theorem dl_2371 : decode code 2371 = .ok (.ifCond .eq 7, 3) := by decide +kernel
theorem dl_2374 : decode code 2374 = .ok (.lconst 1, 1) := by decide +kernel
theorem dl_2375 : decode code 2375 = .ok (.goto 4, 3) := by decide +kernel
theorem dl_2378 : decode code 2378 = .ok (.lconst 0, 1) := by decide +kernel
theorem dl_2379 : decode code 2379 = .ok (.lcmp, 1) := by decide +kernel
theorem dl_2380 : decode code 2380 = .ok (.ifCond .eq 5, 3) := by decide +kernel
theorem dl_2383 : decode code 2383 = .ok (.iconst 0, 1) := by decide +kernel
theorem dl_2384 : decode code 2384 = .ok (.ireturn, 1) := by decide +kernel
theorem dl_2385 : decode code 2385 = .ok (.goto 314, 3) := by decide +kernel
theorem dl_2388 : decode code 2388 = .ok (.aload_n 1, 1) := by decide +kernel
theorem dl_2389 : decode code 2389 = .ok (.aload_n 0, 1) := by decide +kernel
theorem dl_2390 : decode code 2390 = .ok (.iload 4, 2) := by decide +kernel
theorem dl_2392 : decode code 2392 = .ok (.iconst 1, 1) := by decide +kernel
theorem dl_2393 : decode code 2393 = .ok (.iadd, 1) := by decide +kernel
theorem dl_2394 : decode code 2394 = .ok (.iaload, 1) := by decide +kernel
theorem dl_2395 : decode code 2395 = .ok (.aload_n 3, 1) := by decide +kernel
theorem dl_2396 : decode code 2396 = .ok (.invokestatic 298, 3) := by decide +kernel
theorem dl_2399 : decode code 2399 = .ok (.istore 5, 2) := by decide +kernel
theorem dl_2401 : decode code 2401 = .ok (.aload_n 2, 1) := by decide +kernel
theorem dl_2402 : decode code 2402 = .ok (.aload_n 0, 1) := by decide +kernel
theorem dl_2403 : decode code 2403 = .ok (.iload 4, 2) := by decide +kernel
theorem dl_2405 : decode code 2405 = .ok (.iconst 1, 1) := by decide +kernel
theorem dl_2406 : decode code 2406 = .ok (.iadd, 1) := by decide +kernel
theorem dl_2407 : decode code 2407 = .ok (.iaload, 1) := by decide +kernel
theorem dl_2408 : decode code 2408 = .ok (.invokevirtual 300, 3) := by decide +kernel
theorem dl_2411 : decode code 2411 = .ok (.istore 6, 2) := by decide +kernel
theorem dl_2413 : decode code 2413 = .ok (.aload_n 2, 1) := by decide +kernel
theorem dl_2414 : decode code 2414 = .ok (.invokevirtual 131, 3) := by decide +kernel
theorem dl_2417 : decode code 2417 = .ok (.iload 5, 2) := by decide +kernel
theorem dl_2419 : decode code 2419 = .ok (.if_icmp .eq 5, 3) := by decide +kernel
theorem dl_2422 : decode code 2422 = .ok (.iconst 0, 1) := by decide +kernel
theorem dl_2423 : decode code 2423 = .ok (.ireturn, 1) := by decide +kernel
theorem dl_2424 : decode code 2424 = .ok (.iload 5, 2) := by decide +kernel
theorem dl_2426 : decode code 2426 = .ok (.ifCond .ne 15, 3) := by decide +kernel
theorem dl_2429 : decode code 2429 = .ok (.aload_n 3, 1) := by decide +kernel
theorem dl_2430 : decode code 2430 = .ok (.iconst 0, 1) := by decide +kernel
theorem dl_2431 : decode code 2431 = .ok (.laload, 1) := by decide +kernel
theorem dl_2432 : decode code 2432 = .ok (.iload 6, 2) := by decide +kernel
theorem dl_2434 : decode code 2434 = .ok (.i2l, 1) := by decide +kernel
theorem dl_2435 : decode code 2435 = .ok (.lcmp, 1) := by decide +kernel
theorem dl_2436 : decode code 2436 = .ok (.ifCond .eq 5, 3) := by decide +kernel
theorem dl_2439 : decode code 2439 = .ok (.iconst 0, 1) := by decide +kernel
theorem dl_2440 : decode code 2440 = .ok (.ireturn, 1) := by decide +kernel
theorem dl_2441 : decode code 2441 = .ok (.goto 258, 3) := by decide +kernel
theorem dl_2444 : decode code 2444 = .ok (.aload_n 1, 1) := by decide +kernel
theorem dl_2445 : decode code 2445 = .ok (.invokevirtual 301, 3) := by decide +kernel
theorem dl_2448 : decode code 2448 = .ok (.aload_n 2, 1) := by decide +kernel
theorem dl_2449 : decode code 2449 = .ok (.invokevirtual 304, 3) := by decide +kernel
theorem dl_2452 : decode code 2452 = .ok (.if_icmp .eq 247, 3) := by decide +kernel
theorem dl_2455 : decode code 2455 = .ok (.iconst 0, 1) := by decide +kernel
theorem dl_2456 : decode code 2456 = .ok (.ireturn, 1) := by decide +kernel
theorem dl_2457 : decode code 2457 = .ok (.aload_n 1, 1) := by decide +kernel
theorem dl_2458 : decode code 2458 = .ok (.invokevirtual 305, 3) := by decide +kernel
theorem dl_2461 : decode code 2461 = .ok (.aload_n 2, 1) := by decide +kernel
theorem dl_2462 : decode code 2462 = .ok (.invokevirtual 308, 3) := by decide +kernel
theorem dl_2465 : decode code 2465 = .ok (.if_icmp .eq 234, 3) := by decide +kernel
theorem dl_2468 : decode code 2468 = .ok (.iconst 0, 1) := by decide +kernel
theorem dl_2469 : decode code 2469 = .ok (.ireturn, 1) := by decide +kernel
theorem dl_2470 : decode code 2470 = .ok (.aload_n 1, 1) := by decide +kernel
theorem dl_2471 : decode code 2471 = .ok (.invokevirtual 309, 3) := by decide +kernel
theorem dl_2474 : decode code 2474 = .ok (.aload_n 2, 1) := by decide +kernel
theorem dl_2475 : decode code 2475 = .ok (.invokevirtual 312, 3) := by decide +kernel
theorem dl_2478 : decode code 2478 = .ok (.if_icmp .eq 221, 3) := by decide +kernel
theorem dl_2481 : decode code 2481 = .ok (.iconst 0, 1) := by decide +kernel
theorem dl_2482 : decode code 2482 = .ok (.ireturn, 1) := by decide +kernel
theorem dl_2483 : decode code 2483 = .ok (.aload_n 1, 1) := by decide +kernel
theorem dl_2484 : decode code 2484 = .ok (.aload_n 0, 1) := by decide +kernel
theorem dl_2485 : decode code 2485 = .ok (.iload 4, 2) := by decide +kernel
theorem dl_2487 : decode code 2487 = .ok (.iconst 1, 1) := by decide +kernel
theorem dl_2488 : decode code 2488 = .ok (.iadd, 1) := by decide +kernel
theorem dl_2489 : decode code 2489 = .ok (.iaload, 1) := by decide +kernel
theorem dl_2490 : decode code 2490 = .ok (.aload_n 0, 1) := by decide +kernel
theorem dl_2491 : decode code 2491 = .ok (.iload 4, 2) := by decide +kernel
theorem dl_2493 : decode code 2493 = .ok (.iconst 2, 1) := by decide +kernel
theorem dl_2494 : decode code 2494 = .ok (.iadd, 1) := by decide +kernel
theorem dl_2495 : decode code 2495 = .ok (.iaload, 1) := by decide +kernel
theorem dl_2496 : decode code 2496 = .ok (.aload_n 3, 1) := by decide +kernel
theorem dl_2497 : decode code 2497 = .ok (.invokestatic 313, 3) := by decide +kernel
theorem dl_2500 : decode code 2500 = .ok (.istore 5, 2) := by decide +kernel
theorem dl_2502 : decode code 2502 = .ok (.aload_n 2, 1) := by decide +kernel
theorem dl_2503 : decode code 2503 = .ok (.aload_n 0, 1) := by decide +kernel
theorem dl_2504 : decode code 2504 = .ok (.iload 4, 2) := by decide +kernel
theorem dl_2506 : decode code 2506 = .ok (.iconst 1, 1) := by decide +kernel
theorem dl_2507 : decode code 2507 = .ok (.iadd, 1) := by decide +kernel
theorem dl_2508 : decode code 2508 = .ok (.iaload, 1) := by decide +kernel
theorem dl_2509 : decode code 2509 = .ok (.aload_n 0, 1) := by decide +kernel
theorem dl_2510 : decode code 2510 = .ok (.iload 4, 2) := by decide +kernel
theorem dl_2512 : decode code 2512 = .ok (.iconst 2, 1) := by decide +kernel
theorem dl_2513 : decode code 2513 = .ok (.iadd, 1) := by decide +kernel
theorem dl_2514 : decode code 2514 = .ok (.iaload, 1) := by decide +kernel
theorem dl_2515 : decode code 2515 = .ok (.invokevirtual 315, 3) := by decide +kernel
theorem dl_2518 : decode code 2518 = .ok (.istore 6, 2) := by decide +kernel
theorem dl_2520 : decode code 2520 = .ok (.aload_n 2, 1) := by decide +kernel
theorem dl_2521 : decode code 2521 = .ok (.invokevirtual 131, 3) := by decide +kernel
theorem dl_2524 : decode code 2524 = .ok (.iload 5, 2) := by decide +kernel
theorem dl_2526 : decode code 2526 = .ok (.if_icmp .eq 5, 3) := by decide +kernel
theorem dl_2529 : decode code 2529 = .ok (.iconst 0, 1) := by decide +kernel
