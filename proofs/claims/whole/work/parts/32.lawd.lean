theorem dd_L_law_280 : decode bb_L_law 280 = .ok (.goto 618, 3) := by decide +kernel
theorem dd_L_law_283 : decode bb_L_law 283 = .ok (.aload_n 1, 1) := by decide +kernel
theorem dd_L_law_284 : decode bb_L_law 284 = .ok (.aload_n 0, 1) := by decide +kernel
theorem dd_L_law_285 : decode bb_L_law 285 = .ok (.iload 4, 2) := by decide +kernel
theorem dd_L_law_287 : decode bb_L_law 287 = .ok (.iconst 1, 1) := by decide +kernel
theorem dd_L_law_288 : decode bb_L_law 288 = .ok (.iadd, 1) := by decide +kernel
theorem dd_L_law_289 : decode bb_L_law 289 = .ok (.iaload, 1) := by decide +kernel
theorem dd_L_law_290 : decode bb_L_law 290 = .ok (.aload_n 0, 1) := by decide +kernel
theorem dd_L_law_291 : decode bb_L_law 291 = .ok (.iload 4, 2) := by decide +kernel
theorem dd_L_law_293 : decode bb_L_law 293 = .ok (.iconst 2, 1) := by decide +kernel
theorem dd_L_law_294 : decode bb_L_law 294 = .ok (.iadd, 1) := by decide +kernel
theorem dd_L_law_295 : decode bb_L_law 295 = .ok (.iaload, 1) := by decide +kernel
theorem dd_L_law_296 : decode bb_L_law 296 = .ok (.aload_n 0, 1) := by decide +kernel
theorem dd_L_law_297 : decode bb_L_law 297 = .ok (.iload 4, 2) := by decide +kernel
theorem dd_L_law_299 : decode bb_L_law 299 = .ok (.iconst 3, 1) := by decide +kernel
theorem dd_L_law_300 : decode bb_L_law 300 = .ok (.iadd, 1) := by decide +kernel
theorem dd_L_law_301 : decode bb_L_law 301 = .ok (.iaload, 1) := by decide +kernel
theorem dd_L_law_302 : decode bb_L_law 302 = .ok (.aload_n 3, 1) := by decide +kernel
theorem dd_L_law_303 : decode bb_L_law 303 = .ok (.invokestatic 76, 3) := by decide +kernel
theorem dd_L_law_306 : decode bb_L_law 306 = .ok (.istore 5, 2) := by decide +kernel
theorem dd_L_law_308 : decode bb_L_law 308 = .ok (.aload_n 2, 1) := by decide +kernel
theorem dd_L_law_309 : decode bb_L_law 309 = .ok (.aload_n 0, 1) := by decide +kernel
theorem dd_L_law_310 : decode bb_L_law 310 = .ok (.iload 4, 2) := by decide +kernel
theorem dd_L_law_312 : decode bb_L_law 312 = .ok (.iconst 1, 1) := by decide +kernel
theorem dd_L_law_313 : decode bb_L_law 313 = .ok (.iadd, 1) := by decide +kernel
theorem dd_L_law_314 : decode bb_L_law 314 = .ok (.iaload, 1) := by decide +kernel
theorem dd_L_law_315 : decode bb_L_law 315 = .ok (.aload_n 0, 1) := by decide +kernel
theorem dd_L_law_316 : decode bb_L_law 316 = .ok (.iload 4, 2) := by decide +kernel
theorem dd_L_law_318 : decode bb_L_law 318 = .ok (.iconst 2, 1) := by decide +kernel
theorem dd_L_law_319 : decode bb_L_law 319 = .ok (.iadd, 1) := by decide +kernel
theorem dd_L_law_320 : decode bb_L_law 320 = .ok (.iaload, 1) := by decide +kernel
theorem dd_L_law_321 : decode bb_L_law 321 = .ok (.aload_n 0, 1) := by decide +kernel
theorem dd_L_law_322 : decode bb_L_law 322 = .ok (.iload 4, 2) := by decide +kernel
theorem dd_L_law_324 : decode bb_L_law 324 = .ok (.iconst 3, 1) := by decide +kernel
theorem dd_L_law_325 : decode bb_L_law 325 = .ok (.iadd, 1) := by decide +kernel
theorem dd_L_law_326 : decode bb_L_law 326 = .ok (.iaload, 1) := by decide +kernel
theorem dd_L_law_327 : decode bb_L_law 327 = .ok (.invokevirtual 78, 3) := by decide +kernel
theorem dd_L_law_330 : decode bb_L_law 330 = .ok (.istore 6, 2) := by decide +kernel
theorem dd_L_law_332 : decode bb_L_law 332 = .ok (.aload_n 2, 1) := by decide +kernel
theorem dd_L_law_333 : decode bb_L_law 333 = .ok (.invokevirtual 69, 3) := by decide +kernel
theorem dd_L_law_336 : decode bb_L_law 336 = .ok (.iload 5, 2) := by decide +kernel
theorem dd_L_law_338 : decode bb_L_law 338 = .ok (.if_icmp .eq 5, 3) := by decide +kernel
theorem dd_L_law_341 : decode bb_L_law 341 = .ok (.iconst 0, 1) := by decide +kernel
theorem dd_L_law_342 : decode bb_L_law 342 = .ok (.ireturn, 1) := by decide +kernel
theorem dd_L_law_343 : decode bb_L_law 343 = .ok (.iload 5, 2) := by decide +kernel
theorem dd_L_law_345 : decode bb_L_law 345 = .ok (.ifCond .ne 15, 3) := by decide +kernel
theorem dd_L_law_348 : decode bb_L_law 348 = .ok (.aload_n 3, 1) := by decide +kernel
theorem dd_L_law_349 : decode bb_L_law 349 = .ok (.iconst 0, 1) := by decide +kernel
theorem dd_L_law_350 : decode bb_L_law 350 = .ok (.laload, 1) := by decide +kernel
theorem dd_L_law_351 : decode bb_L_law 351 = .ok (.iload 6, 2) := by decide +kernel
theorem dd_L_law_353 : decode bb_L_law 353 = .ok (.i2l, 1) := by decide +kernel
theorem dd_L_law_354 : decode bb_L_law 354 = .ok (.lcmp, 1) := by decide +kernel
theorem dd_L_law_355 : decode bb_L_law 355 = .ok (.ifCond .eq 5, 3) := by decide +kernel
theorem dd_L_law_358 : decode bb_L_law 358 = .ok (.iconst 0, 1) := by decide +kernel
theorem dd_L_law_359 : decode bb_L_law 359 = .ok (.ireturn, 1) := by decide +kernel
theorem dd_L_law_360 : decode bb_L_law 360 = .ok (.goto 538, 3) := by decide +kernel
theorem dd_L_law_363 : decode bb_L_law 363 = .ok (.aload_n 1, 1) := by decide +kernel
theorem dd_L_law_364 : decode bb_L_law 364 = .ok (.aload_n 3, 1) := by decide +kernel
theorem dd_L_law_365 : decode bb_L_law 365 = .ok (.invokestatic 79, 3) := by decide +kernel
theorem dd_L_law_368 : decode bb_L_law 368 = .ok (.istore 5, 2) := by decide +kernel
theorem dd_L_law_370 : decode bb_L_law 370 = .ok (.aload_n 2, 1) := by decide +kernel
theorem dd_L_law_371 : decode bb_L_law 371 = .ok (.invokevirtual 82, 3) := by decide +kernel
theorem dd_L_law_374 : decode bb_L_law 374 = .ok (.istore 6, 2) := by decide +kernel
theorem dd_L_law_376 : decode bb_L_law 376 = .ok (.aload_n 2, 1) := by decide +kernel
theorem dd_L_law_377 : decode bb_L_law 377 = .ok (.invokevirtual 69, 3) := by decide +kernel
theorem dd_L_law_380 : decode bb_L_law 380 = .ok (.iload 5, 2) := by decide +kernel
theorem dd_L_law_382 : decode bb_L_law 382 = .ok (.if_icmp .eq 5, 3) := by decide +kernel
theorem dd_L_law_385 : decode bb_L_law 385 = .ok (.iconst 0, 1) := by decide +kernel
theorem dd_L_law_386 : decode bb_L_law 386 = .ok (.ireturn, 1) := by decide +kernel
theorem dd_L_law_387 : decode bb_L_law 387 = .ok (.iload 5, 2) := by decide +kernel
theorem dd_L_law_389 : decode bb_L_law 389 = .ok (.ifCond .ne 15, 3) := by decide +kernel
theorem dd_L_law_392 : decode bb_L_law 392 = .ok (.aload_n 3, 1) := by decide +kernel
theorem dd_L_law_393 : decode bb_L_law 393 = .ok (.iconst 0, 1) := by decide +kernel
theorem dd_L_law_394 : decode bb_L_law 394 = .ok (.laload, 1) := by decide +kernel
theorem dd_L_law_395 : decode bb_L_law 395 = .ok (.iload 6, 2) := by decide +kernel
theorem dd_L_law_397 : decode bb_L_law 397 = .ok (.i2l, 1) := by decide +kernel
theorem dd_L_law_398 : decode bb_L_law 398 = .ok (.lcmp, 1) := by decide +kernel
theorem dd_L_law_399 : decode bb_L_law 399 = .ok (.ifCond .eq 5, 3) := by decide +kernel
theorem dd_L_law_402 : decode bb_L_law 402 = .ok (.iconst 0, 1) := by decide +kernel
theorem dd_L_law_403 : decode bb_L_law 403 = .ok (.ireturn, 1) := by decide +kernel
theorem dd_L_law_404 : decode bb_L_law 404 = .ok (.goto 494, 3) := by decide +kernel
theorem dd_L_law_407 : decode bb_L_law 407 = .ok (.aload_n 1, 1) := by decide +kernel
theorem dd_L_law_408 : decode bb_L_law 408 = .ok (.invokevirtual 83, 3) := by decide +kernel
theorem dd_L_law_411 : decode bb_L_law 411 = .ok (.aload_n 2, 1) := by decide +kernel
theorem dd_L_law_412 : decode bb_L_law 412 = .ok (.invokevirtual 86, 3) := by decide +kernel
theorem dd_L_law_415 : decode bb_L_law 415 = .ok (.if_icmp .eq 483, 3) := by decide +kernel
theorem dd_L_law_418 : decode bb_L_law 418 = .ok (.iconst 0, 1) := by decide +kernel
theorem dd_L_law_419 : decode bb_L_law 419 = .ok (.ireturn, 1) := by decide +kernel
theorem dd_L_law_420 : decode bb_L_law 420 = .ok (.aload_n 1, 1) := by decide +kernel
theorem dd_L_law_421 : decode bb_L_law 421 = .ok (.aload_n 0, 1) := by decide +kernel
theorem dd_L_law_422 : decode bb_L_law 422 = .ok (.iload 4, 2) := by decide +kernel
theorem dd_L_law_424 : decode bb_L_law 424 = .ok (.iconst 1, 1) := by decide +kernel
theorem dd_L_law_425 : decode bb_L_law 425 = .ok (.iadd, 1) := by decide +kernel
theorem dd_L_law_426 : decode bb_L_law 426 = .ok (.iaload, 1) := by decide +kernel
theorem dd_L_law_427 : decode bb_L_law 427 = .ok (.invokevirtual 87, 3) := by decide +kernel
theorem dd_L_law_430 : decode bb_L_law 430 = .ok (.aload_n 2, 1) := by decide +kernel
theorem dd_L_law_431 : decode bb_L_law 431 = .ok (.aload_n 0, 1) := by decide +kernel
theorem dd_L_law_432 : decode bb_L_law 432 = .ok (.iload 4, 2) := by decide +kernel
theorem dd_L_law_434 : decode bb_L_law 434 = .ok (.iconst 1, 1) := by decide +kernel
theorem dd_L_law_435 : decode bb_L_law 435 = .ok (.iadd, 1) := by decide +kernel
theorem dd_L_law_436 : decode bb_L_law 436 = .ok (.iaload, 1) := by decide +kernel
theorem dd_L_law_437 : decode bb_L_law 437 = .ok (.invokevirtual 90, 3) := by decide +kernel
theorem dd_L_law_440 : decode bb_L_law 440 = .ok (.if_icmp .eq 458, 3) := by decide +kernel
theorem dd_L_law_443 : decode bb_L_law 443 = .ok (.iconst 0, 1) := by decide +kernel
theorem dd_L_law_444 : decode bb_L_law 444 = .ok (.ireturn, 1) := by decide +kernel
theorem dd_L_law_445 : decode bb_L_law 445 = .ok (.aload_n 1, 1) := by decide +kernel
theorem dd_L_law_446 : decode bb_L_law 446 = .ok (.invokevirtual 91, 3) := by decide +kernel
theorem dd_L_law_449 : decode bb_L_law 449 = .ok (.aload_n 2, 1) := by decide +kernel
theorem dd_L_law_450 : decode bb_L_law 450 = .ok (.invokevirtual 94, 3) := by decide +kernel
theorem dd_L_law_453 : decode bb_L_law 453 = .ok (.if_icmp .eq 445, 3) := by decide +kernel
theorem dd_L_law_456 : decode bb_L_law 456 = .ok (.iconst 0, 1) := by decide +kernel
theorem dd_L_law_457 : decode bb_L_law 457 = .ok (.ireturn, 1) := by decide +kernel
theorem dd_L_law_458 : decode bb_L_law 458 = .ok (.aload_n 1, 1) := by decide +kernel
theorem dd_L_law_459 : decode bb_L_law 459 = .ok (.invokevirtual 95, 3) := by decide +kernel
theorem dd_L_law_462 : decode bb_L_law 462 = .ok (.aload_n 2, 1) := by decide +kernel
theorem dd_L_law_463 : decode bb_L_law 463 = .ok (.invokevirtual 98, 3) := by decide +kernel
theorem dd_L_law_466 : decode bb_L_law 466 = .ok (.if_icmp .eq 432, 3) := by decide +kernel
theorem dd_L_law_469 : decode bb_L_law 469 = .ok (.iconst 0, 1) := by decide +kernel
theorem dd_L_law_470 : decode bb_L_law 470 = .ok (.ireturn, 1) := by decide +kernel
theorem dd_L_law_471 : decode bb_L_law 471 = .ok (.aload_n 1, 1) := by decide +kernel
theorem dd_L_law_472 : decode bb_L_law 472 = .ok (.invokevirtual 99, 3) := by decide +kernel
theorem dd_L_law_475 : decode bb_L_law 475 = .ok (.aload_n 2, 1) := by decide +kernel
theorem dd_L_law_476 : decode bb_L_law 476 = .ok (.invokevirtual 102, 3) := by decide +kernel
theorem dd_L_law_479 : decode bb_L_law 479 = .ok (.if_icmp .eq 419, 3) := by decide +kernel
theorem dd_L_law_482 : decode bb_L_law 482 = .ok (.iconst 0, 1) := by decide +kernel
theorem dd_L_law_483 : decode bb_L_law 483 = .ok (.ireturn, 1) := by decide +kernel
theorem dd_L_law_484 : decode bb_L_law 484 = .ok (.aload_n 1, 1) := by decide +kernel
theorem dd_L_law_485 : decode bb_L_law 485 = .ok (.aload_n 3, 1) := by decide +kernel
theorem dd_L_law_486 : decode bb_L_law 486 = .ok (.invokestatic 103, 3) := by decide +kernel
theorem dd_L_law_489 : decode bb_L_law 489 = .ok (.istore 5, 2) := by decide +kernel
