theorem dl_0 : decode code 0 = .ok (.new 8, 3) := by decide +kernel
theorem dl_3 : decode code 3 = .ok (.dup, 1) := by decide +kernel
theorem dl_4 : decode code 4 = .ok (.invokespecial 116, 3) := by decide +kernel
theorem dl_7 : decode code 7 = .ok (.astore_n 1, 1) := by decide +kernel
theorem dl_8 : decode code 8 = .ok (.new 117, 3) := by decide +kernel
theorem dl_11 : decode code 11 = .ok (.dup, 1) := by decide +kernel
theorem dl_12 : decode code 12 = .ok (.invokespecial 119, 3) := by decide +kernel
theorem dl_15 : decode code 15 = .ok (.astore_n 2, 1) := by decide +kernel
theorem dl_16 : decode code 16 = .ok (.iconst 1, 1) := by decide +kernel
theorem dl_17 : decode code 17 = .ok (.newarray .long, 2) := by decide +kernel
theorem dl_19 : decode code 19 = .ok (.astore_n 3, 1) := by decide +kernel
theorem dl_20 : decode code 20 = .ok (.iconst 0, 1) := by decide +kernel
theorem dl_21 : decode code 21 = .ok (.istore 4, 2) := by decide +kernel
theorem dl_23 : decode code 23 = .ok (.iload 4, 2) := by decide +kernel
theorem dl_25 : decode code 25 = .ok (.aload_n 0, 1) := by decide +kernel
theorem dl_26 : decode code 26 = .ok (.arraylength, 1) := by decide +kernel
theorem dl_27 : decode code 27 = .ok (.bipush 6, 2) := by decide +kernel
theorem dl_29 : decode code 29 = .ok (.isub, 1) := by decide +kernel
theorem dl_30 : decode code 30 = .ok (.if_icmp .gt 2675, 3) := by decide +kernel
theorem dl_33 : decode code 33 = .ok (.aload_n 0, 1) := by decide +kernel
theorem dl_34 : decode code 34 = .ok (.iload 4, 2) := by decide +kernel
theorem dl_36 : decode code 36 = .ok (.iaload, 1) := by decide +kernel
theorem dl_37 : decode code 37 = .ok (.bipush 63, 2) := by decide +kernel
theorem dl_39 : decode code 39 = .ok (.iand, 1) := by decide +kernel
theorem dl_40 : decode code 40 = .ok (.tableswitch 2659 0 59 #[256, 329, 385, 398, 411, 479, 547, 627, 707, 787, 843, 899, 955, 968, 981, 994, 1007, 1051, 1064, 1077, 1090, 1103, 1159, 1215, 1283, 1296, 1352, 1408, 1464, 1520, 1576, 1589, 1602, 1658, 1671, 1727, 1802, 1815, 1828, 1896, 1952, 2008, 2021, 2034, 2090, 2153, 2166, 2222, 2285, 2348, 2404, 2417, 2430, 2443, 2511, 2524, 2565, 2608, 2621, 2634], 256) := by decide +kernel
theorem dl_296 : decode code 296 = .ok (.aload_n 1, 1) := by decide +kernel
theorem dl_297 : decode code 297 = .ok (.aload_n 0, 1) := by decide +kernel
theorem dl_298 : decode code 298 = .ok (.iload 4, 2) := by decide +kernel
theorem dl_300 : decode code 300 = .ok (.iconst 1, 1) := by decide +kernel
theorem dl_301 : decode code 301 = .ok (.iadd, 1) := by decide +kernel
theorem dl_302 : decode code 302 = .ok (.iaload, 1) := by decide +kernel
theorem dl_303 : decode code 303 = .ok (.aload_n 0, 1) := by decide +kernel
theorem dl_304 : decode code 304 = .ok (.iload 4, 2) := by decide +kernel
theorem dl_306 : decode code 306 = .ok (.iconst 2, 1) := by decide +kernel
theorem dl_307 : decode code 307 = .ok (.iadd, 1) := by decide +kernel
theorem dl_308 : decode code 308 = .ok (.iaload, 1) := by decide +kernel
theorem dl_309 : decode code 309 = .ok (.aload_n 0, 1) := by decide +kernel
theorem dl_310 : decode code 310 = .ok (.iload 4, 2) := by decide +kernel
theorem dl_312 : decode code 312 = .ok (.iconst 3, 1) := by decide +kernel
theorem dl_313 : decode code 313 = .ok (.iadd, 1) := by decide +kernel
theorem dl_314 : decode code 314 = .ok (.iaload, 1) := by decide +kernel
theorem dl_315 : decode code 315 = .ok (.aload_n 0, 1) := by decide +kernel
theorem dl_316 : decode code 316 = .ok (.iload 4, 2) := by decide +kernel
theorem dl_318 : decode code 318 = .ok (.iconst 4, 1) := by decide +kernel
theorem dl_319 : decode code 319 = .ok (.iadd, 1) := by decide +kernel
theorem dl_320 : decode code 320 = .ok (.iaload, 1) := by decide +kernel
theorem dl_321 : decode code 321 = .ok (.aload_n 0, 1) := by decide +kernel
theorem dl_322 : decode code 322 = .ok (.iload 4, 2) := by decide +kernel
theorem dl_324 : decode code 324 = .ok (.iconst 5, 1) := by decide +kernel
theorem dl_325 : decode code 325 = .ok (.iadd, 1) := by decide +kernel
theorem dl_326 : decode code 326 = .ok (.iaload, 1) := by decide +kernel
theorem dl_327 : decode code 327 = .ok (.invokevirtual 120, 3) := by decide +kernel
theorem dl_330 : decode code 330 = .ok (.aload_n 2, 1) := by decide +kernel
theorem dl_331 : decode code 331 = .ok (.aload_n 0, 1) := by decide +kernel
theorem dl_332 : decode code 332 = .ok (.iload 4, 2) := by decide +kernel
theorem dl_334 : decode code 334 = .ok (.iconst 1, 1) := by decide +kernel
theorem dl_335 : decode code 335 = .ok (.iadd, 1) := by decide +kernel
theorem dl_336 : decode code 336 = .ok (.iaload, 1) := by decide +kernel
theorem dl_337 : decode code 337 = .ok (.aload_n 0, 1) := by decide +kernel
theorem dl_338 : decode code 338 = .ok (.iload 4, 2) := by decide +kernel
theorem dl_340 : decode code 340 = .ok (.iconst 2, 1) := by decide +kernel
theorem dl_341 : decode code 341 = .ok (.iadd, 1) := by decide +kernel
theorem dl_342 : decode code 342 = .ok (.iaload, 1) := by decide +kernel
theorem dl_343 : decode code 343 = .ok (.aload_n 0, 1) := by decide +kernel
theorem dl_344 : decode code 344 = .ok (.iload 4, 2) := by decide +kernel
theorem dl_346 : decode code 346 = .ok (.iconst 3, 1) := by decide +kernel
theorem dl_347 : decode code 347 = .ok (.iadd, 1) := by decide +kernel
theorem dl_348 : decode code 348 = .ok (.iaload, 1) := by decide +kernel
theorem dl_349 : decode code 349 = .ok (.aload_n 0, 1) := by decide +kernel
theorem dl_350 : decode code 350 = .ok (.iload 4, 2) := by decide +kernel
theorem dl_352 : decode code 352 = .ok (.iconst 4, 1) := by decide +kernel
theorem dl_353 : decode code 353 = .ok (.iadd, 1) := by decide +kernel
theorem dl_354 : decode code 354 = .ok (.iaload, 1) := by decide +kernel
theorem dl_355 : decode code 355 = .ok (.aload_n 0, 1) := by decide +kernel
theorem dl_356 : decode code 356 = .ok (.iload 4, 2) := by decide +kernel
theorem dl_358 : decode code 358 = .ok (.iconst 5, 1) := by decide +kernel
theorem dl_359 : decode code 359 = .ok (.iadd, 1) := by decide +kernel
theorem dl_360 : decode code 360 = .ok (.iaload, 1) := by decide +kernel
theorem dl_361 : decode code 361 = .ok (.invokevirtual 124, 3) := by decide +kernel
theorem dl_364 : decode code 364 = .ok (.if_icmp .eq 2335, 3) := by decide +kernel
theorem dl_367 : decode code 367 = .ok (.iconst 0, 1) := by decide +kernel
theorem dl_368 : decode code 368 = .ok (.ireturn, 1) := by decide +kernel
theorem dl_369 : decode code 369 = .ok (.aload_n 1, 1) := by decide +kernel
theorem dl_370 : decode code 370 = .ok (.aload_n 0, 1) := by decide +kernel
theorem dl_371 : decode code 371 = .ok (.iload 4, 2) := by decide +kernel
theorem dl_373 : decode code 373 = .ok (.iconst 1, 1) := by decide +kernel
theorem dl_374 : decode code 374 = .ok (.iadd, 1) := by decide +kernel
theorem dl_375 : decode code 375 = .ok (.iaload, 1) := by decide +kernel
theorem dl_376 : decode code 376 = .ok (.aload_n 3, 1) := by decide +kernel
theorem dl_377 : decode code 377 = .ok (.invokestatic 125, 3) := by decide +kernel
theorem dl_380 : decode code 380 = .ok (.istore 5, 2) := by decide +kernel
theorem dl_382 : decode code 382 = .ok (.aload_n 2, 1) := by decide +kernel
theorem dl_383 : decode code 383 = .ok (.aload_n 0, 1) := by decide +kernel
theorem dl_384 : decode code 384 = .ok (.iload 4, 2) := by decide +kernel
theorem dl_386 : decode code 386 = .ok (.iconst 1, 1) := by decide +kernel
theorem dl_387 : decode code 387 = .ok (.iadd, 1) := by decide +kernel
theorem dl_388 : decode code 388 = .ok (.iaload, 1) := by decide +kernel
theorem dl_389 : decode code 389 = .ok (.invokevirtual 130, 3) := by decide +kernel
theorem dl_392 : decode code 392 = .ok (.istore 6, 2) := by decide +kernel
theorem dl_394 : decode code 394 = .ok (.aload_n 2, 1) := by decide +kernel
theorem dl_395 : decode code 395 = .ok (.invokevirtual 131, 3) := by decide +kernel
theorem dl_398 : decode code 398 = .ok (.iload 5, 2) := by decide +kernel
theorem dl_400 : decode code 400 = .ok (.if_icmp .eq 5, 3) := by decide +kernel
theorem dl_403 : decode code 403 = .ok (.iconst 0, 1) := by decide +kernel
theorem dl_404 : decode code 404 = .ok (.ireturn, 1) := by decide +kernel
theorem dl_405 : decode code 405 = .ok (.iload 5, 2) := by decide +kernel
theorem dl_407 : decode code 407 = .ok (.ifCond .ne 15, 3) := by decide +kernel
theorem dl_410 : decode code 410 = .ok (.aload_n 3, 1) := by decide +kernel
theorem dl_411 : decode code 411 = .ok (.iconst 0, 1) := by decide +kernel
theorem dl_412 : decode code 412 = .ok (.laload, 1) := by decide +kernel
