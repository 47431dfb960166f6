theorem o_L_law : (mn 299).cls = "NeedsALoserLaw" := by decide +kernel
theorem l_L_law : ml 299 = 4 := by decide +kernel
theorem t_L_law : mr 299 = some .boolean := by decide +kernel
theorem i_L_law_0 : decode (mb 299) 0 = .ok (.new 7, 3) := by decide +kernel
theorem i_L_law_3 : decode (mb 299) 3 = .ok (.dup, 1) := by decide +kernel
theorem i_L_law_4 : decode (mb 299) 4 = .ok (.invokespecial 9, 3) := by decide +kernel
theorem i_L_law_7 : decode (mb 299) 7 = .ok (.astore_n 1, 1) := by decide +kernel
theorem i_L_law_8 : decode (mb 299) 8 = .ok (.new 10, 3) := by decide +kernel
theorem i_L_law_11 : decode (mb 299) 11 = .ok (.dup, 1) := by decide +kernel
theorem i_L_law_12 : decode (mb 299) 12 = .ok (.invokespecial 12, 3) := by decide +kernel
theorem i_L_law_15 : decode (mb 299) 15 = .ok (.astore_n 2, 1) := by decide +kernel
theorem i_L_law_16 : decode (mb 299) 16 = .ok (.iconst 0, 1) := by decide +kernel
theorem i_L_law_17 : decode (mb 299) 17 = .ok (.istore_n 3, 1) := by decide +kernel
theorem i_L_law_18 : decode (mb 299) 18 = .ok (.iload_n 3, 1) := by decide +kernel
theorem i_L_law_19 : decode (mb 299) 19 = .ok (.aload_n 0, 1) := by decide +kernel
theorem i_L_law_20 : decode (mb 299) 20 = .ok (.arraylength, 1) := by decide +kernel
theorem i_L_law_21 : decode (mb 299) 21 = .ok (.bipush 6, 2) := by decide +kernel
theorem i_L_law_23 : decode (mb 299) 23 = .ok (.isub, 1) := by decide +kernel
theorem i_L_law_24 : decode (mb 299) 24 = .ok (.if_icmp .gt 1726, 3) := by decide +kernel
theorem i_L_law_27 : decode (mb 299) 27 = .ok (.aload_n 0, 1) := by decide +kernel
theorem i_L_law_28 : decode (mb 299) 28 = .ok (.iload_n 3, 1) := by decide +kernel
theorem i_L_law_29 : decode (mb 299) 29 = .ok (.iaload, 1) := by decide +kernel
theorem i_L_law_30 : decode (mb 299) 30 = .ok (.bipush 63, 2) := by decide +kernel
theorem i_L_law_32 : decode (mb 299) 32 = .ok (.iand, 1) := by decide +kernel
theorem i_L_law_33 : decode (mb 299) 33 = .ok (.tableswitch 1711 0 56 #[243, 286, 359, 422, 456, 479, 522, 555, 568, 621, 664, 723, 756, 779, 792, 805, 838, 871, 894, 917, 950, 993, 1016, 1049, 1082, 1095, 1118, 1141, 1154, 1177, 1200, 1213, 1236, 1249, 1262, 1285, 1308, 1321, 1334, 1347, 1390, 1403, 1426, 1439, 1452, 1485, 1498, 1511, 1534, 1547, 1580, 1593, 1616, 1639, 1662, 1675, 1688], 243) := by decide +kernel
theorem i_L_law_276 : decode (mb 299) 276 = .ok (.aload_n 1, 1) := by decide +kernel
theorem i_L_law_277 : decode (mb 299) 277 = .ok (.aload_n 0, 1) := by decide +kernel
theorem i_L_law_278 : decode (mb 299) 278 = .ok (.iload_n 3, 1) := by decide +kernel
theorem i_L_law_279 : decode (mb 299) 279 = .ok (.iconst 1, 1) := by decide +kernel
theorem i_L_law_280 : decode (mb 299) 280 = .ok (.iadd, 1) := by decide +kernel
theorem i_L_law_281 : decode (mb 299) 281 = .ok (.iaload, 1) := by decide +kernel
theorem i_L_law_282 : decode (mb 299) 282 = .ok (.aload_n 0, 1) := by decide +kernel
theorem i_L_law_283 : decode (mb 299) 283 = .ok (.iload_n 3, 1) := by decide +kernel
theorem i_L_law_284 : decode (mb 299) 284 = .ok (.iconst 2, 1) := by decide +kernel
theorem i_L_law_285 : decode (mb 299) 285 = .ok (.iadd, 1) := by decide +kernel
theorem i_L_law_286 : decode (mb 299) 286 = .ok (.iaload, 1) := by decide +kernel
theorem i_L_law_287 : decode (mb 299) 287 = .ok (.aload_n 0, 1) := by decide +kernel
theorem i_L_law_288 : decode (mb 299) 288 = .ok (.iload_n 3, 1) := by decide +kernel
theorem i_L_law_289 : decode (mb 299) 289 = .ok (.iconst 3, 1) := by decide +kernel
theorem i_L_law_290 : decode (mb 299) 290 = .ok (.iadd, 1) := by decide +kernel
theorem i_L_law_291 : decode (mb 299) 291 = .ok (.iaload, 1) := by decide +kernel
theorem i_L_law_292 : decode (mb 299) 292 = .ok (.invokevirtual 13, 3) := by decide +kernel
theorem i_L_law_295 : decode (mb 299) 295 = .ok (.aload_n 2, 1) := by decide +kernel
theorem i_L_law_296 : decode (mb 299) 296 = .ok (.aload_n 0, 1) := by decide +kernel
theorem i_L_law_297 : decode (mb 299) 297 = .ok (.iload_n 3, 1) := by decide +kernel
theorem i_L_law_298 : decode (mb 299) 298 = .ok (.iconst 1, 1) := by decide +kernel
theorem i_L_law_299 : decode (mb 299) 299 = .ok (.iadd, 1) := by decide +kernel
theorem i_L_law_300 : decode (mb 299) 300 = .ok (.iaload, 1) := by decide +kernel
theorem i_L_law_301 : decode (mb 299) 301 = .ok (.aload_n 0, 1) := by decide +kernel
theorem i_L_law_302 : decode (mb 299) 302 = .ok (.iload_n 3, 1) := by decide +kernel
theorem i_L_law_303 : decode (mb 299) 303 = .ok (.iconst 2, 1) := by decide +kernel
theorem i_L_law_304 : decode (mb 299) 304 = .ok (.iadd, 1) := by decide +kernel
theorem i_L_law_305 : decode (mb 299) 305 = .ok (.iaload, 1) := by decide +kernel
theorem i_L_law_306 : decode (mb 299) 306 = .ok (.aload_n 0, 1) := by decide +kernel
theorem i_L_law_307 : decode (mb 299) 307 = .ok (.iload_n 3, 1) := by decide +kernel
theorem i_L_law_308 : decode (mb 299) 308 = .ok (.iconst 3, 1) := by decide +kernel
theorem i_L_law_309 : decode (mb 299) 309 = .ok (.iadd, 1) := by decide +kernel
theorem i_L_law_310 : decode (mb 299) 310 = .ok (.iaload, 1) := by decide +kernel
theorem i_L_law_311 : decode (mb 299) 311 = .ok (.invokevirtual 17, 3) := by decide +kernel
theorem i_L_law_314 : decode (mb 299) 314 = .ok (.if_icmp .eq 1430, 3) := by decide +kernel
theorem i_L_law_317 : decode (mb 299) 317 = .ok (.iconst 0, 1) := by decide +kernel
theorem i_L_law_318 : decode (mb 299) 318 = .ok (.ireturn, 1) := by decide +kernel
theorem i_L_law_319 : decode (mb 299) 319 = .ok (.aload_n 1, 1) := by decide +kernel
theorem i_L_law_320 : decode (mb 299) 320 = .ok (.aload_n 0, 1) := by decide +kernel
theorem i_L_law_321 : decode (mb 299) 321 = .ok (.iload_n 3, 1) := by decide +kernel
theorem i_L_law_322 : decode (mb 299) 322 = .ok (.iconst 1, 1) := by decide +kernel
theorem i_L_law_323 : decode (mb 299) 323 = .ok (.iadd, 1) := by decide +kernel
theorem i_L_law_324 : decode (mb 299) 324 = .ok (.iaload, 1) := by decide +kernel
theorem i_L_law_325 : decode (mb 299) 325 = .ok (.aload_n 0, 1) := by decide +kernel
theorem i_L_law_326 : decode (mb 299) 326 = .ok (.iload_n 3, 1) := by decide +kernel
theorem i_L_law_327 : decode (mb 299) 327 = .ok (.iconst 2, 1) := by decide +kernel
theorem i_L_law_328 : decode (mb 299) 328 = .ok (.iadd, 1) := by decide +kernel
theorem i_L_law_329 : decode (mb 299) 329 = .ok (.iaload, 1) := by decide +kernel
theorem i_L_law_330 : decode (mb 299) 330 = .ok (.aload_n 0, 1) := by decide +kernel
theorem i_L_law_331 : decode (mb 299) 331 = .ok (.iload_n 3, 1) := by decide +kernel
theorem i_L_law_332 : decode (mb 299) 332 = .ok (.iconst 3, 1) := by decide +kernel
theorem i_L_law_333 : decode (mb 299) 333 = .ok (.iadd, 1) := by decide +kernel
theorem i_L_law_334 : decode (mb 299) 334 = .ok (.iaload, 1) := by decide +kernel
theorem i_L_law_335 : decode (mb 299) 335 = .ok (.i2l, 1) := by decide +kernel
theorem i_L_law_336 : decode (mb 299) 336 = .ok (.bipush 32, 2) := by decide +kernel
theorem i_L_law_338 : decode (mb 299) 338 = .ok (.lshl, 1) := by decide +kernel
theorem i_L_law_339 : decode (mb 299) 339 = .ok (.aload_n 0, 1) := by decide +kernel
theorem i_L_law_340 : decode (mb 299) 340 = .ok (.iload_n 3, 1) := by decide +kernel
theorem i_L_law_341 : decode (mb 299) 341 = .ok (.iconst 4, 1) := by decide +kernel
theorem i_L_law_342 : decode (mb 299) 342 = .ok (.iadd, 1) := by decide +kernel
theorem i_L_law_343 : decode (mb 299) 343 = .ok (.iaload, 1) := by decide +kernel
theorem i_L_law_344 : decode (mb 299) 344 = .ok (.i2l, 1) := by decide +kernel
theorem i_L_law_345 : decode (mb 299) 345 = .ok (.ldc2_w 18, 3) := by decide +kernel
theorem i_L_law_348 : decode (mb 299) 348 = .ok (.land, 1) := by decide +kernel
theorem i_L_law_349 : decode (mb 299) 349 = .ok (.lor, 1) := by decide +kernel
theorem i_L_law_350 : decode (mb 299) 350 = .ok (.invokevirtual 20, 3) := by decide +kernel
theorem i_L_law_353 : decode (mb 299) 353 = .ok (.aload_n 2, 1) := by decide +kernel
theorem i_L_law_354 : decode (mb 299) 354 = .ok (.aload_n 0, 1) := by decide +kernel
theorem i_L_law_355 : decode (mb 299) 355 = .ok (.iload_n 3, 1) := by decide +kernel
theorem i_L_law_356 : decode (mb 299) 356 = .ok (.iconst 1, 1) := by decide +kernel
theorem i_L_law_357 : decode (mb 299) 357 = .ok (.iadd, 1) := by decide +kernel
theorem i_L_law_358 : decode (mb 299) 358 = .ok (.iaload, 1) := by decide +kernel
theorem i_L_law_359 : decode (mb 299) 359 = .ok (.aload_n 0, 1) := by decide +kernel
theorem i_L_law_360 : decode (mb 299) 360 = .ok (.iload_n 3, 1) := by decide +kernel
theorem i_L_law_361 : decode (mb 299) 361 = .ok (.iconst 2, 1) := by decide +kernel
theorem i_L_law_362 : decode (mb 299) 362 = .ok (.iadd, 1) := by decide +kernel
theorem i_L_law_363 : decode (mb 299) 363 = .ok (.iaload, 1) := by decide +kernel
theorem i_L_law_364 : decode (mb 299) 364 = .ok (.aload_n 0, 1) := by decide +kernel
theorem i_L_law_365 : decode (mb 299) 365 = .ok (.iload_n 3, 1) := by decide +kernel
theorem i_L_law_366 : decode (mb 299) 366 = .ok (.iconst 3, 1) := by decide +kernel
theorem i_L_law_367 : decode (mb 299) 367 = .ok (.iadd, 1) := by decide +kernel
theorem i_L_law_368 : decode (mb 299) 368 = .ok (.iaload, 1) := by decide +kernel
theorem i_L_law_369 : decode (mb 299) 369 = .ok (.i2l, 1) := by decide +kernel
theorem i_L_law_370 : decode (mb 299) 370 = .ok (.bipush 32, 2) := by decide +kernel
theorem i_L_law_372 : decode (mb 299) 372 = .ok (.lshl, 1) := by decide +kernel
theorem i_L_law_373 : decode (mb 299) 373 = .ok (.aload_n 0, 1) := by decide +kernel
theorem i_L_law_374 : decode (mb 299) 374 = .ok (.iload_n 3, 1) := by decide +kernel
theorem i_L_law_375 : decode (mb 299) 375 = .ok (.iconst 4, 1) := by decide +kernel
theorem i_L_law_376 : decode (mb 299) 376 = .ok (.iadd, 1) := by decide +kernel
theorem i_L_law_377 : decode (mb 299) 377 = .ok (.iaload, 1) := by decide +kernel
theorem i_L_law_378 : decode (mb 299) 378 = .ok (.i2l, 1) := by decide +kernel
theorem i_L_law_379 : decode (mb 299) 379 = .ok (.ldc2_w 18, 3) := by decide +kernel
theorem i_L_law_382 : decode (mb 299) 382 = .ok (.land, 1) := by decide +kernel
theorem i_L_law_383 : decode (mb 299) 383 = .ok (.lor, 1) := by decide +kernel
theorem i_L_law_384 : decode (mb 299) 384 = .ok (.invokevirtual 24, 3) := by decide +kernel
theorem i_L_law_387 : decode (mb 299) 387 = .ok (.if_icmp .eq 1357, 3) := by decide +kernel
theorem i_L_law_390 : decode (mb 299) 390 = .ok (.iconst 0, 1) := by decide +kernel
theorem i_L_law_391 : decode (mb 299) 391 = .ok (.ireturn, 1) := by decide +kernel
theorem i_L_law_392 : decode (mb 299) 392 = .ok (.aload_n 1, 1) := by decide +kernel
theorem i_L_law_393 : decode (mb 299) 393 = .ok (.aload_n 0, 1) := by decide +kernel
theorem i_L_law_394 : decode (mb 299) 394 = .ok (.iload_n 3, 1) := by decide +kernel
theorem i_L_law_395 : decode (mb 299) 395 = .ok (.iconst 1, 1) := by decide +kernel
theorem i_L_law_396 : decode (mb 299) 396 = .ok (.iadd, 1) := by decide +kernel
theorem i_L_law_397 : decode (mb 299) 397 = .ok (.iaload, 1) := by decide +kernel
theorem i_L_law_398 : decode (mb 299) 398 = .ok (.aload_n 0, 1) := by decide +kernel
theorem i_L_law_399 : decode (mb 299) 399 = .ok (.iload_n 3, 1) := by decide +kernel
theorem i_L_law_400 : decode (mb 299) 400 = .ok (.iconst 2, 1) := by decide +kernel
theorem i_L_law_401 : decode (mb 299) 401 = .ok (.iadd, 1) := by decide +kernel
theorem i_L_law_402 : decode (mb 299) 402 = .ok (.iaload, 1) := by decide +kernel
theorem i_L_law_403 : decode (mb 299) 403 = .ok (.aload_n 0, 1) := by decide +kernel
theorem i_L_law_404 : decode (mb 299) 404 = .ok (.iload_n 3, 1) := by decide +kernel
theorem i_L_law_405 : decode (mb 299) 405 = .ok (.iconst 3, 1) := by decide +kernel
theorem i_L_law_406 : decode (mb 299) 406 = .ok (.iadd, 1) := by decide +kernel
theorem i_L_law_407 : decode (mb 299) 407 = .ok (.iaload, 1) := by decide +kernel
theorem i_L_law_408 : decode (mb 299) 408 = .ok (.aload_n 0, 1) := by decide +kernel
theorem i_L_law_409 : decode (mb 299) 409 = .ok (.iload_n 3, 1) := by decide +kernel
theorem i_L_law_410 : decode (mb 299) 410 = .ok (.iconst 4, 1) := by decide +kernel
theorem i_L_law_411 : decode (mb 299) 411 = .ok (.iadd, 1) := by decide +kernel
theorem i_L_law_412 : decode (mb 299) 412 = .ok (.iaload, 1) := by decide +kernel
theorem i_L_law_413 : decode (mb 299) 413 = .ok (.aload_n 0, 1) := by decide +kernel
theorem i_L_law_414 : decode (mb 299) 414 = .ok (.iload_n 3, 1) := by decide +kernel
theorem i_L_law_415 : decode (mb 299) 415 = .ok (.iconst 5, 1) := by decide +kernel
theorem i_L_law_416 : decode (mb 299) 416 = .ok (.iadd, 1) := by decide +kernel
theorem i_L_law_417 : decode (mb 299) 417 = .ok (.iaload, 1) := by decide +kernel
theorem i_L_law_418 : decode (mb 299) 418 = .ok (.invokevirtual 25, 3) := by decide +kernel
theorem i_L_law_421 : decode (mb 299) 421 = .ok (.aload_n 2, 1) := by decide +kernel
theorem i_L_law_422 : decode (mb 299) 422 = .ok (.aload_n 0, 1) := by decide +kernel
theorem i_L_law_423 : decode (mb 299) 423 = .ok (.iload_n 3, 1) := by decide +kernel
theorem i_L_law_424 : decode (mb 299) 424 = .ok (.iconst 1, 1) := by decide +kernel
theorem i_L_law_425 : decode (mb 299) 425 = .ok (.iadd, 1) := by decide +kernel
theorem i_L_law_426 : decode (mb 299) 426 = .ok (.iaload, 1) := by decide +kernel
theorem i_L_law_427 : decode (mb 299) 427 = .ok (.aload_n 0, 1) := by decide +kernel
theorem i_L_law_428 : decode (mb 299) 428 = .ok (.iload_n 3, 1) := by decide +kernel
theorem i_L_law_429 : decode (mb 299) 429 = .ok (.iconst 2, 1) := by decide +kernel
theorem i_L_law_430 : decode (mb 299) 430 = .ok (.iadd, 1) := by decide +kernel
theorem i_L_law_431 : decode (mb 299) 431 = .ok (.iaload, 1) := by decide +kernel
theorem i_L_law_432 : decode (mb 299) 432 = .ok (.aload_n 0, 1) := by decide +kernel
theorem i_L_law_433 : decode (mb 299) 433 = .ok (.iload_n 3, 1) := by decide +kernel
theorem i_L_law_434 : decode (mb 299) 434 = .ok (.iconst 3, 1) := by decide +kernel
theorem i_L_law_435 : decode (mb 299) 435 = .ok (.iadd, 1) := by decide +kernel
theorem i_L_law_436 : decode (mb 299) 436 = .ok (.iaload, 1) := by decide +kernel
theorem i_L_law_437 : decode (mb 299) 437 = .ok (.aload_n 0, 1) := by decide +kernel
theorem i_L_law_438 : decode (mb 299) 438 = .ok (.iload_n 3, 1) := by decide +kernel
theorem i_L_law_439 : decode (mb 299) 439 = .ok (.iconst 4, 1) := by decide +kernel
theorem i_L_law_440 : decode (mb 299) 440 = .ok (.iadd, 1) := by decide +kernel
theorem i_L_law_441 : decode (mb 299) 441 = .ok (.iaload, 1) := by decide +kernel
theorem i_L_law_442 : decode (mb 299) 442 = .ok (.aload_n 0, 1) := by decide +kernel
theorem i_L_law_443 : decode (mb 299) 443 = .ok (.iload_n 3, 1) := by decide +kernel
theorem i_L_law_444 : decode (mb 299) 444 = .ok (.iconst 5, 1) := by decide +kernel
theorem i_L_law_445 : decode (mb 299) 445 = .ok (.iadd, 1) := by decide +kernel
theorem i_L_law_446 : decode (mb 299) 446 = .ok (.iaload, 1) := by decide +kernel
theorem i_L_law_447 : decode (mb 299) 447 = .ok (.invokevirtual 29, 3) := by decide +kernel
theorem i_L_law_450 : decode (mb 299) 450 = .ok (.if_icmp .eq 1294, 3) := by decide +kernel
theorem i_L_law_453 : decode (mb 299) 453 = .ok (.iconst 0, 1) := by decide +kernel
theorem i_L_law_454 : decode (mb 299) 454 = .ok (.ireturn, 1) := by decide +kernel
theorem i_L_law_455 : decode (mb 299) 455 = .ok (.aload_n 1, 1) := by decide +kernel
theorem i_L_law_456 : decode (mb 299) 456 = .ok (.aload_n 0, 1) := by decide +kernel
theorem i_L_law_457 : decode (mb 299) 457 = .ok (.iload_n 3, 1) := by decide +kernel
theorem i_L_law_458 : decode (mb 299) 458 = .ok (.iconst 1, 1) := by decide +kernel
theorem i_L_law_459 : decode (mb 299) 459 = .ok (.iadd, 1) := by decide +kernel
theorem i_L_law_460 : decode (mb 299) 460 = .ok (.iaload, 1) := by decide +kernel
theorem i_L_law_461 : decode (mb 299) 461 = .ok (.aload_n 0, 1) := by decide +kernel
theorem i_L_law_462 : decode (mb 299) 462 = .ok (.iload_n 3, 1) := by decide +kernel
theorem i_L_law_463 : decode (mb 299) 463 = .ok (.iconst 2, 1) := by decide +kernel
theorem i_L_law_464 : decode (mb 299) 464 = .ok (.iadd, 1) := by decide +kernel
theorem i_L_law_465 : decode (mb 299) 465 = .ok (.iaload, 1) := by decide +kernel
theorem i_L_law_466 : decode (mb 299) 466 = .ok (.invokevirtual 30, 3) := by decide +kernel
theorem i_L_law_469 : decode (mb 299) 469 = .ok (.aload_n 2, 1) := by decide +kernel
theorem i_L_law_470 : decode (mb 299) 470 = .ok (.aload_n 0, 1) := by decide +kernel
theorem i_L_law_471 : decode (mb 299) 471 = .ok (.iload_n 3, 1) := by decide +kernel
theorem i_L_law_472 : decode (mb 299) 472 = .ok (.iconst 1, 1) := by decide +kernel
theorem i_L_law_473 : decode (mb 299) 473 = .ok (.iadd, 1) := by decide +kernel
theorem i_L_law_474 : decode (mb 299) 474 = .ok (.iaload, 1) := by decide +kernel
theorem i_L_law_475 : decode (mb 299) 475 = .ok (.aload_n 0, 1) := by decide +kernel
theorem i_L_law_476 : decode (mb 299) 476 = .ok (.iload_n 3, 1) := by decide +kernel
theorem i_L_law_477 : decode (mb 299) 477 = .ok (.iconst 2, 1) := by decide +kernel
theorem i_L_law_478 : decode (mb 299) 478 = .ok (.iadd, 1) := by decide +kernel
theorem i_L_law_479 : decode (mb 299) 479 = .ok (.iaload, 1) := by decide +kernel
theorem i_L_law_480 : decode (mb 299) 480 = .ok (.invokevirtual 34, 3) := by decide +kernel
theorem i_L_law_483 : decode (mb 299) 483 = .ok (.lcmp, 1) := by decide +kernel
theorem i_L_law_484 : decode (mb 299) 484 = .ok (.ifCond .eq 1260, 3) := by decide +kernel
theorem i_L_law_487 : decode (mb 299) 487 = .ok (.iconst 0, 1) := by decide +kernel
theorem i_L_law_488 : decode (mb 299) 488 = .ok (.ireturn, 1) := by decide +kernel
theorem i_L_law_489 : decode (mb 299) 489 = .ok (.aload_n 1, 1) := by decide +kernel
theorem i_L_law_490 : decode (mb 299) 490 = .ok (.aload_n 0, 1) := by decide +kernel
theorem i_L_law_491 : decode (mb 299) 491 = .ok (.iload_n 3, 1) := by decide +kernel
theorem i_L_law_492 : decode (mb 299) 492 = .ok (.iconst 1, 1) := by decide +kernel
theorem i_L_law_493 : decode (mb 299) 493 = .ok (.iadd, 1) := by decide +kernel
theorem i_L_law_494 : decode (mb 299) 494 = .ok (.iaload, 1) := by decide +kernel
theorem i_L_law_495 : decode (mb 299) 495 = .ok (.invokevirtual 35, 3) := by decide +kernel
theorem i_L_law_498 : decode (mb 299) 498 = .ok (.aload_n 2, 1) := by decide +kernel
theorem i_L_law_499 : decode (mb 299) 499 = .ok (.aload_n 0, 1) := by decide +kernel
theorem i_L_law_500 : decode (mb 299) 500 = .ok (.iload_n 3, 1) := by decide +kernel
theorem i_L_law_501 : decode (mb 299) 501 = .ok (.iconst 1, 1) := by decide +kernel
theorem i_L_law_502 : decode (mb 299) 502 = .ok (.iadd, 1) := by decide +kernel
theorem i_L_law_503 : decode (mb 299) 503 = .ok (.iaload, 1) := by decide +kernel
theorem i_L_law_504 : decode (mb 299) 504 = .ok (.invokevirtual 39, 3) := by decide +kernel
theorem i_L_law_507 : decode (mb 299) 507 = .ok (.if_icmp .eq 1237, 3) := by decide +kernel
theorem i_L_law_510 : decode (mb 299) 510 = .ok (.iconst 0, 1) := by decide +kernel
theorem i_L_law_511 : decode (mb 299) 511 = .ok (.ireturn, 1) := by decide +kernel
theorem i_L_law_512 : decode (mb 299) 512 = .ok (.aload_n 1, 1) := by decide +kernel
theorem i_L_law_513 : decode (mb 299) 513 = .ok (.aload_n 0, 1) := by decide +kernel
theorem i_L_law_514 : decode (mb 299) 514 = .ok (.iload_n 3, 1) := by decide +kernel
theorem i_L_law_515 : decode (mb 299) 515 = .ok (.iconst 1, 1) := by decide +kernel
theorem i_L_law_516 : decode (mb 299) 516 = .ok (.iadd, 1) := by decide +kernel
theorem i_L_law_517 : decode (mb 299) 517 = .ok (.iaload, 1) := by decide +kernel
theorem i_L_law_518 : decode (mb 299) 518 = .ok (.aload_n 0, 1) := by decide +kernel
theorem i_L_law_519 : decode (mb 299) 519 = .ok (.iload_n 3, 1) := by decide +kernel
theorem i_L_law_520 : decode (mb 299) 520 = .ok (.iconst 2, 1) := by decide +kernel
theorem i_L_law_521 : decode (mb 299) 521 = .ok (.iadd, 1) := by decide +kernel
theorem i_L_law_522 : decode (mb 299) 522 = .ok (.iaload, 1) := by decide +kernel
theorem i_L_law_523 : decode (mb 299) 523 = .ok (.aload_n 0, 1) := by decide +kernel
theorem i_L_law_524 : decode (mb 299) 524 = .ok (.iload_n 3, 1) := by decide +kernel
theorem i_L_law_525 : decode (mb 299) 525 = .ok (.iconst 3, 1) := by decide +kernel
theorem i_L_law_526 : decode (mb 299) 526 = .ok (.iadd, 1) := by decide +kernel
theorem i_L_law_527 : decode (mb 299) 527 = .ok (.iaload, 1) := by decide +kernel
theorem i_L_law_528 : decode (mb 299) 528 = .ok (.invokevirtual 40, 3) := by decide +kernel
theorem i_L_law_531 : decode (mb 299) 531 = .ok (.aload_n 2, 1) := by decide +kernel
theorem i_L_law_532 : decode (mb 299) 532 = .ok (.aload_n 0, 1) := by decide +kernel
theorem i_L_law_533 : decode (mb 299) 533 = .ok (.iload_n 3, 1) := by decide +kernel
theorem i_L_law_534 : decode (mb 299) 534 = .ok (.iconst 1, 1) := by decide +kernel
theorem i_L_law_535 : decode (mb 299) 535 = .ok (.iadd, 1) := by decide +kernel
theorem i_L_law_536 : decode (mb 299) 536 = .ok (.iaload, 1) := by decide +kernel
theorem i_L_law_537 : decode (mb 299) 537 = .ok (.aload_n 0, 1) := by decide +kernel
theorem i_L_law_538 : decode (mb 299) 538 = .ok (.iload_n 3, 1) := by decide +kernel
theorem i_L_law_539 : decode (mb 299) 539 = .ok (.iconst 2, 1) := by decide +kernel
theorem i_L_law_540 : decode (mb 299) 540 = .ok (.iadd, 1) := by decide +kernel
theorem i_L_law_541 : decode (mb 299) 541 = .ok (.iaload, 1) := by decide +kernel
theorem i_L_law_542 : decode (mb 299) 542 = .ok (.aload_n 0, 1) := by decide +kernel
theorem i_L_law_543 : decode (mb 299) 543 = .ok (.iload_n 3, 1) := by decide +kernel
theorem i_L_law_544 : decode (mb 299) 544 = .ok (.iconst 3, 1) := by decide +kernel
theorem i_L_law_545 : decode (mb 299) 545 = .ok (.iadd, 1) := by decide +kernel
theorem i_L_law_546 : decode (mb 299) 546 = .ok (.iaload, 1) := by decide +kernel
theorem i_L_law_547 : decode (mb 299) 547 = .ok (.invokevirtual 43, 3) := by decide +kernel
theorem i_L_law_550 : decode (mb 299) 550 = .ok (.if_icmp .eq 1194, 3) := by decide +kernel
theorem i_L_law_553 : decode (mb 299) 553 = .ok (.iconst 0, 1) := by decide +kernel
theorem i_L_law_554 : decode (mb 299) 554 = .ok (.ireturn, 1) := by decide +kernel
theorem i_L_law_555 : decode (mb 299) 555 = .ok (.aload_n 1, 1) := by decide +kernel
theorem i_L_law_556 : decode (mb 299) 556 = .ok (.aload_n 0, 1) := by decide +kernel
theorem i_L_law_557 : decode (mb 299) 557 = .ok (.iload_n 3, 1) := by decide +kernel
theorem i_L_law_558 : decode (mb 299) 558 = .ok (.iconst 1, 1) := by decide +kernel
theorem i_L_law_559 : decode (mb 299) 559 = .ok (.iadd, 1) := by decide +kernel
theorem i_L_law_560 : decode (mb 299) 560 = .ok (.iaload, 1) := by decide +kernel
theorem i_L_law_561 : decode (mb 299) 561 = .ok (.aload_n 0, 1) := by decide +kernel
theorem i_L_law_562 : decode (mb 299) 562 = .ok (.iload_n 3, 1) := by decide +kernel
theorem i_L_law_563 : decode (mb 299) 563 = .ok (.iconst 2, 1) := by decide +kernel
theorem i_L_law_564 : decode (mb 299) 564 = .ok (.iadd, 1) := by decide +kernel
theorem i_L_law_565 : decode (mb 299) 565 = .ok (.iaload, 1) := by decide +kernel
theorem i_L_law_566 : decode (mb 299) 566 = .ok (.invokevirtual 44, 3) := by decide +kernel
theorem i_L_law_569 : decode (mb 299) 569 = .ok (.aload_n 2, 1) := by decide +kernel
theorem i_L_law_570 : decode (mb 299) 570 = .ok (.aload_n 0, 1) := by decide +kernel
theorem i_L_law_571 : decode (mb 299) 571 = .ok (.iload_n 3, 1) := by decide +kernel
theorem i_L_law_572 : decode (mb 299) 572 = .ok (.iconst 1, 1) := by decide +kernel
theorem i_L_law_573 : decode (mb 299) 573 = .ok (.iadd, 1) := by decide +kernel
theorem i_L_law_574 : decode (mb 299) 574 = .ok (.iaload, 1) := by decide +kernel
theorem i_L_law_575 : decode (mb 299) 575 = .ok (.aload_n 0, 1) := by decide +kernel
theorem i_L_law_576 : decode (mb 299) 576 = .ok (.iload_n 3, 1) := by decide +kernel
theorem i_L_law_577 : decode (mb 299) 577 = .ok (.iconst 2, 1) := by decide +kernel
theorem i_L_law_578 : decode (mb 299) 578 = .ok (.iadd, 1) := by decide +kernel
theorem i_L_law_579 : decode (mb 299) 579 = .ok (.iaload, 1) := by decide +kernel
theorem i_L_law_580 : decode (mb 299) 580 = .ok (.invokevirtual 48, 3) := by decide +kernel
theorem i_L_law_583 : decode (mb 299) 583 = .ok (.if_icmp .eq 1161, 3) := by decide +kernel
theorem i_L_law_586 : decode (mb 299) 586 = .ok (.iconst 0, 1) := by decide +kernel
theorem i_L_law_587 : decode (mb 299) 587 = .ok (.ireturn, 1) := by decide +kernel
theorem i_L_law_588 : decode (mb 299) 588 = .ok (.aload_n 1, 1) := by decide +kernel
theorem i_L_law_589 : decode (mb 299) 589 = .ok (.invokevirtual 49, 3) := by decide +kernel
theorem i_L_law_592 : decode (mb 299) 592 = .ok (.aload_n 2, 1) := by decide +kernel
theorem i_L_law_593 : decode (mb 299) 593 = .ok (.invokevirtual 53, 3) := by decide +kernel
theorem i_L_law_596 : decode (mb 299) 596 = .ok (.if_icmp .eq 1148, 3) := by decide +kernel
theorem i_L_law_599 : decode (mb 299) 599 = .ok (.iconst 0, 1) := by decide +kernel
theorem i_L_law_600 : decode (mb 299) 600 = .ok (.ireturn, 1) := by decide +kernel
theorem i_L_law_601 : decode (mb 299) 601 = .ok (.aload_n 1, 1) := by decide +kernel
theorem i_L_law_602 : decode (mb 299) 602 = .ok (.aload_n 0, 1) := by decide +kernel
theorem i_L_law_603 : decode (mb 299) 603 = .ok (.iload_n 3, 1) := by decide +kernel
theorem i_L_law_604 : decode (mb 299) 604 = .ok (.iconst 1, 1) := by decide +kernel
theorem i_L_law_605 : decode (mb 299) 605 = .ok (.iadd, 1) := by decide +kernel
theorem i_L_law_606 : decode (mb 299) 606 = .ok (.iaload, 1) := by decide +kernel
theorem i_L_law_607 : decode (mb 299) 607 = .ok (.aload_n 0, 1) := by decide +kernel
theorem i_L_law_608 : decode (mb 299) 608 = .ok (.iload_n 3, 1) := by decide +kernel
theorem i_L_law_609 : decode (mb 299) 609 = .ok (.iconst 2, 1) := by decide +kernel
theorem i_L_law_610 : decode (mb 299) 610 = .ok (.iadd, 1) := by decide +kernel
theorem i_L_law_611 : decode (mb 299) 611 = .ok (.iaload, 1) := by decide +kernel
theorem i_L_law_612 : decode (mb 299) 612 = .ok (.aload_n 0, 1) := by decide +kernel
theorem i_L_law_613 : decode (mb 299) 613 = .ok (.iload_n 3, 1) := by decide +kernel
theorem i_L_law_614 : decode (mb 299) 614 = .ok (.iconst 3, 1) := by decide +kernel
theorem i_L_law_615 : decode (mb 299) 615 = .ok (.iadd, 1) := by decide +kernel
theorem i_L_law_616 : decode (mb 299) 616 = .ok (.iaload, 1) := by decide +kernel
theorem i_L_law_617 : decode (mb 299) 617 = .ok (.aload_n 0, 1) := by decide +kernel
theorem i_L_law_618 : decode (mb 299) 618 = .ok (.iload_n 3, 1) := by decide +kernel
theorem i_L_law_619 : decode (mb 299) 619 = .ok (.iconst 4, 1) := by decide +kernel
theorem i_L_law_620 : decode (mb 299) 620 = .ok (.iadd, 1) := by decide +kernel
theorem i_L_law_621 : decode (mb 299) 621 = .ok (.iaload, 1) := by decide +kernel
theorem i_L_law_622 : decode (mb 299) 622 = .ok (.invokevirtual 54, 3) := by decide +kernel
theorem i_L_law_625 : decode (mb 299) 625 = .ok (.aload_n 2, 1) := by decide +kernel
theorem i_L_law_626 : decode (mb 299) 626 = .ok (.aload_n 0, 1) := by decide +kernel
theorem i_L_law_627 : decode (mb 299) 627 = .ok (.iload_n 3, 1) := by decide +kernel
theorem i_L_law_628 : decode (mb 299) 628 = .ok (.iconst 1, 1) := by decide +kernel
theorem i_L_law_629 : decode (mb 299) 629 = .ok (.iadd, 1) := by decide +kernel
theorem i_L_law_630 : decode (mb 299) 630 = .ok (.iaload, 1) := by decide +kernel
theorem i_L_law_631 : decode (mb 299) 631 = .ok (.aload_n 0, 1) := by decide +kernel
theorem i_L_law_632 : decode (mb 299) 632 = .ok (.iload_n 3, 1) := by decide +kernel
theorem i_L_law_633 : decode (mb 299) 633 = .ok (.iconst 2, 1) := by decide +kernel
theorem i_L_law_634 : decode (mb 299) 634 = .ok (.iadd, 1) := by decide +kernel
theorem i_L_law_635 : decode (mb 299) 635 = .ok (.iaload, 1) := by decide +kernel
theorem i_L_law_636 : decode (mb 299) 636 = .ok (.aload_n 0, 1) := by decide +kernel
theorem i_L_law_637 : decode (mb 299) 637 = .ok (.iload_n 3, 1) := by decide +kernel
theorem i_L_law_638 : decode (mb 299) 638 = .ok (.iconst 3, 1) := by decide +kernel
theorem i_L_law_639 : decode (mb 299) 639 = .ok (.iadd, 1) := by decide +kernel
theorem i_L_law_640 : decode (mb 299) 640 = .ok (.iaload, 1) := by decide +kernel
theorem i_L_law_641 : decode (mb 299) 641 = .ok (.aload_n 0, 1) := by decide +kernel
theorem i_L_law_642 : decode (mb 299) 642 = .ok (.iload_n 3, 1) := by decide +kernel
theorem i_L_law_643 : decode (mb 299) 643 = .ok (.iconst 4, 1) := by decide +kernel
theorem i_L_law_644 : decode (mb 299) 644 = .ok (.iadd, 1) := by decide +kernel
theorem i_L_law_645 : decode (mb 299) 645 = .ok (.iaload, 1) := by decide +kernel
theorem i_L_law_646 : decode (mb 299) 646 = .ok (.invokevirtual 58, 3) := by decide +kernel
theorem i_L_law_649 : decode (mb 299) 649 = .ok (.if_icmp .eq 1095, 3) := by decide +kernel
theorem i_L_law_652 : decode (mb 299) 652 = .ok (.iconst 0, 1) := by decide +kernel
theorem i_L_law_653 : decode (mb 299) 653 = .ok (.ireturn, 1) := by decide +kernel
theorem i_L_law_654 : decode (mb 299) 654 = .ok (.aload_n 1, 1) := by decide +kernel
theorem i_L_law_655 : decode (mb 299) 655 = .ok (.aload_n 0, 1) := by decide +kernel
theorem i_L_law_656 : decode (mb 299) 656 = .ok (.iload_n 3, 1) := by decide +kernel
theorem i_L_law_657 : decode (mb 299) 657 = .ok (.iconst 1, 1) := by decide +kernel
theorem i_L_law_658 : decode (mb 299) 658 = .ok (.iadd, 1) := by decide +kernel
theorem i_L_law_659 : decode (mb 299) 659 = .ok (.iaload, 1) := by decide +kernel
theorem i_L_law_660 : decode (mb 299) 660 = .ok (.aload_n 0, 1) := by decide +kernel
theorem i_L_law_661 : decode (mb 299) 661 = .ok (.iload_n 3, 1) := by decide +kernel
theorem i_L_law_662 : decode (mb 299) 662 = .ok (.iconst 2, 1) := by decide +kernel
theorem i_L_law_663 : decode (mb 299) 663 = .ok (.iadd, 1) := by decide +kernel
theorem i_L_law_664 : decode (mb 299) 664 = .ok (.iaload, 1) := by decide +kernel
theorem i_L_law_665 : decode (mb 299) 665 = .ok (.aload_n 0, 1) := by decide +kernel
theorem i_L_law_666 : decode (mb 299) 666 = .ok (.iload_n 3, 1) := by decide +kernel
theorem i_L_law_667 : decode (mb 299) 667 = .ok (.iconst 3, 1) := by decide +kernel
theorem i_L_law_668 : decode (mb 299) 668 = .ok (.iadd, 1) := by decide +kernel
theorem i_L_law_669 : decode (mb 299) 669 = .ok (.iaload, 1) := by decide +kernel
theorem i_L_law_670 : decode (mb 299) 670 = .ok (.invokevirtual 59, 3) := by decide +kernel
theorem i_L_law_673 : decode (mb 299) 673 = .ok (.aload_n 2, 1) := by decide +kernel
theorem i_L_law_674 : decode (mb 299) 674 = .ok (.aload_n 0, 1) := by decide +kernel
theorem i_L_law_675 : decode (mb 299) 675 = .ok (.iload_n 3, 1) := by decide +kernel
theorem i_L_law_676 : decode (mb 299) 676 = .ok (.iconst 1, 1) := by decide +kernel
theorem i_L_law_677 : decode (mb 299) 677 = .ok (.iadd, 1) := by decide +kernel
theorem i_L_law_678 : decode (mb 299) 678 = .ok (.iaload, 1) := by decide +kernel
theorem i_L_law_679 : decode (mb 299) 679 = .ok (.aload_n 0, 1) := by decide +kernel
theorem i_L_law_680 : decode (mb 299) 680 = .ok (.iload_n 3, 1) := by decide +kernel
theorem i_L_law_681 : decode (mb 299) 681 = .ok (.iconst 2, 1) := by decide +kernel
theorem i_L_law_682 : decode (mb 299) 682 = .ok (.iadd, 1) := by decide +kernel
theorem i_L_law_683 : decode (mb 299) 683 = .ok (.iaload, 1) := by decide +kernel
theorem i_L_law_684 : decode (mb 299) 684 = .ok (.aload_n 0, 1) := by decide +kernel
theorem i_L_law_685 : decode (mb 299) 685 = .ok (.iload_n 3, 1) := by decide +kernel
theorem i_L_law_686 : decode (mb 299) 686 = .ok (.iconst 3, 1) := by decide +kernel
theorem i_L_law_687 : decode (mb 299) 687 = .ok (.iadd, 1) := by decide +kernel
theorem i_L_law_688 : decode (mb 299) 688 = .ok (.iaload, 1) := by decide +kernel
theorem i_L_law_689 : decode (mb 299) 689 = .ok (.invokevirtual 62, 3) := by decide +kernel
theorem i_L_law_692 : decode (mb 299) 692 = .ok (.if_icmp .eq 1052, 3) := by decide +kernel
theorem i_L_law_695 : decode (mb 299) 695 = .ok (.iconst 0, 1) := by decide +kernel
theorem i_L_law_696 : decode (mb 299) 696 = .ok (.ireturn, 1) := by decide +kernel
theorem i_L_law_697 : decode (mb 299) 697 = .ok (.aload_n 1, 1) := by decide +kernel
theorem i_L_law_698 : decode (mb 299) 698 = .ok (.aload_n 0, 1) := by decide +kernel
theorem i_L_law_699 : decode (mb 299) 699 = .ok (.iload_n 3, 1) := by decide +kernel
theorem i_L_law_700 : decode (mb 299) 700 = .ok (.iconst 1, 1) := by decide +kernel
theorem i_L_law_701 : decode (mb 299) 701 = .ok (.iadd, 1) := by decide +kernel
theorem i_L_law_702 : decode (mb 299) 702 = .ok (.iaload, 1) := by decide +kernel
theorem i_L_law_703 : decode (mb 299) 703 = .ok (.aload_n 0, 1) := by decide +kernel
theorem i_L_law_704 : decode (mb 299) 704 = .ok (.iload_n 3, 1) := by decide +kernel
theorem i_L_law_705 : decode (mb 299) 705 = .ok (.iconst 2, 1) := by decide +kernel
theorem i_L_law_706 : decode (mb 299) 706 = .ok (.iadd, 1) := by decide +kernel
theorem i_L_law_707 : decode (mb 299) 707 = .ok (.iaload, 1) := by decide +kernel
theorem i_L_law_708 : decode (mb 299) 708 = .ok (.aload_n 0, 1) := by decide +kernel
theorem i_L_law_709 : decode (mb 299) 709 = .ok (.iload_n 3, 1) := by decide +kernel
theorem i_L_law_710 : decode (mb 299) 710 = .ok (.iconst 3, 1) := by decide +kernel
theorem i_L_law_711 : decode (mb 299) 711 = .ok (.iadd, 1) := by decide +kernel
theorem i_L_law_712 : decode (mb 299) 712 = .ok (.iaload, 1) := by decide +kernel
theorem i_L_law_713 : decode (mb 299) 713 = .ok (.ifCond .eq 7, 3) := by decide +kernel
theorem i_L_law_716 : decode (mb 299) 716 = .ok (.iconst 1, 1) := by decide +kernel
theorem i_L_law_717 : decode (mb 299) 717 = .ok (.goto 4, 3) := by decide +kernel
theorem i_L_law_720 : decode (mb 299) 720 = .ok (.iconst 0, 1) := by decide +kernel
theorem i_L_law_721 : decode (mb 299) 721 = .ok (.invokevirtual 63, 3) := by decide +kernel
theorem i_L_law_724 : decode (mb 299) 724 = .ok (.aload_n 2, 1) := by decide +kernel
theorem i_L_law_725 : decode (mb 299) 725 = .ok (.aload_n 0, 1) := by decide +kernel
theorem i_L_law_726 : decode (mb 299) 726 = .ok (.iload_n 3, 1) := by decide +kernel
theorem i_L_law_727 : decode (mb 299) 727 = .ok (.iconst 1, 1) := by decide +kernel
theorem i_L_law_728 : decode (mb 299) 728 = .ok (.iadd, 1) := by decide +kernel
theorem i_L_law_729 : decode (mb 299) 729 = .ok (.iaload, 1) := by decide +kernel
theorem i_L_law_730 : decode (mb 299) 730 = .ok (.aload_n 0, 1) := by decide +kernel
theorem i_L_law_731 : decode (mb 299) 731 = .ok (.iload_n 3, 1) := by decide +kernel
theorem i_L_law_732 : decode (mb 299) 732 = .ok (.iconst 2, 1) := by decide +kernel
theorem i_L_law_733 : decode (mb 299) 733 = .ok (.iadd, 1) := by decide +kernel
theorem i_L_law_734 : decode (mb 299) 734 = .ok (.iaload, 1) := by decide +kernel
theorem i_L_law_735 : decode (mb 299) 735 = .ok (.aload_n 0, 1) := by decide +kernel
theorem i_L_law_736 : decode (mb 299) 736 = .ok (.iload_n 3, 1) := by decide +kernel
theorem i_L_law_737 : decode (mb 299) 737 = .ok (.iconst 3, 1) := by decide +kernel
theorem i_L_law_738 : decode (mb 299) 738 = .ok (.iadd, 1) := by decide +kernel
theorem i_L_law_739 : decode (mb 299) 739 = .ok (.iaload, 1) := by decide +kernel
theorem i_L_law_740 : decode (mb 299) 740 = .ok (.ifCond .eq 7, 3) := by decide +kernel
theorem i_L_law_743 : decode (mb 299) 743 = .ok (.iconst 1, 1) := by decide +kernel
theorem i_L_law_744 : decode (mb 299) 744 = .ok (.goto 4, 3) := by decide +kernel
theorem i_L_law_747 : decode (mb 299) 747 = .ok (.iconst 0, 1) := by decide +kernel
theorem i_L_law_748 : decode (mb 299) 748 = .ok (.invokevirtual 67, 3) := by decide +kernel
theorem i_L_law_751 : decode (mb 299) 751 = .ok (.if_icmp .eq 993, 3) := by decide +kernel
theorem i_L_law_754 : decode (mb 299) 754 = .ok (.iconst 0, 1) := by decide +kernel
theorem i_L_law_755 : decode (mb 299) 755 = .ok (.ireturn, 1) := by decide +kernel
theorem i_L_law_756 : decode (mb 299) 756 = .ok (.aload_n 1, 1) := by decide +kernel
theorem i_L_law_757 : decode (mb 299) 757 = .ok (.aload_n 0, 1) := by decide +kernel
theorem i_L_law_758 : decode (mb 299) 758 = .ok (.iload_n 3, 1) := by decide +kernel
theorem i_L_law_759 : decode (mb 299) 759 = .ok (.iconst 1, 1) := by decide +kernel
theorem i_L_law_760 : decode (mb 299) 760 = .ok (.iadd, 1) := by decide +kernel
theorem i_L_law_761 : decode (mb 299) 761 = .ok (.iaload, 1) := by decide +kernel
theorem i_L_law_762 : decode (mb 299) 762 = .ok (.aload_n 0, 1) := by decide +kernel
theorem i_L_law_763 : decode (mb 299) 763 = .ok (.iload_n 3, 1) := by decide +kernel
theorem i_L_law_764 : decode (mb 299) 764 = .ok (.iconst 2, 1) := by decide +kernel
theorem i_L_law_765 : decode (mb 299) 765 = .ok (.iadd, 1) := by decide +kernel
theorem i_L_law_766 : decode (mb 299) 766 = .ok (.iaload, 1) := by decide +kernel
theorem i_L_law_767 : decode (mb 299) 767 = .ok (.invokevirtual 68, 3) := by decide +kernel
theorem i_L_law_770 : decode (mb 299) 770 = .ok (.aload_n 2, 1) := by decide +kernel
theorem i_L_law_771 : decode (mb 299) 771 = .ok (.aload_n 0, 1) := by decide +kernel
theorem i_L_law_772 : decode (mb 299) 772 = .ok (.iload_n 3, 1) := by decide +kernel
theorem i_L_law_773 : decode (mb 299) 773 = .ok (.iconst 1, 1) := by decide +kernel
theorem i_L_law_774 : decode (mb 299) 774 = .ok (.iadd, 1) := by decide +kernel
theorem i_L_law_775 : decode (mb 299) 775 = .ok (.iaload, 1) := by decide +kernel
theorem i_L_law_776 : decode (mb 299) 776 = .ok (.aload_n 0, 1) := by decide +kernel
theorem i_L_law_777 : decode (mb 299) 777 = .ok (.iload_n 3, 1) := by decide +kernel
theorem i_L_law_778 : decode (mb 299) 778 = .ok (.iconst 2, 1) := by decide +kernel
theorem i_L_law_779 : decode (mb 299) 779 = .ok (.iadd, 1) := by decide +kernel
theorem i_L_law_780 : decode (mb 299) 780 = .ok (.iaload, 1) := by decide +kernel
theorem i_L_law_781 : decode (mb 299) 781 = .ok (.invokevirtual 71, 3) := by decide +kernel
theorem i_L_law_784 : decode (mb 299) 784 = .ok (.if_icmp .eq 960, 3) := by decide +kernel
theorem i_L_law_787 : decode (mb 299) 787 = .ok (.iconst 0, 1) := by decide +kernel
theorem i_L_law_788 : decode (mb 299) 788 = .ok (.ireturn, 1) := by decide +kernel
theorem i_L_law_789 : decode (mb 299) 789 = .ok (.aload_n 1, 1) := by decide +kernel
theorem i_L_law_790 : decode (mb 299) 790 = .ok (.aload_n 0, 1) := by decide +kernel
theorem i_L_law_791 : decode (mb 299) 791 = .ok (.iload_n 3, 1) := by decide +kernel
theorem i_L_law_792 : decode (mb 299) 792 = .ok (.iconst 1, 1) := by decide +kernel
theorem i_L_law_793 : decode (mb 299) 793 = .ok (.iadd, 1) := by decide +kernel
theorem i_L_law_794 : decode (mb 299) 794 = .ok (.iaload, 1) := by decide +kernel
theorem i_L_law_795 : decode (mb 299) 795 = .ok (.invokevirtual 72, 3) := by decide +kernel
theorem i_L_law_798 : decode (mb 299) 798 = .ok (.aload_n 2, 1) := by decide +kernel
theorem i_L_law_799 : decode (mb 299) 799 = .ok (.aload_n 0, 1) := by decide +kernel
theorem i_L_law_800 : decode (mb 299) 800 = .ok (.iload_n 3, 1) := by decide +kernel
theorem i_L_law_801 : decode (mb 299) 801 = .ok (.iconst 1, 1) := by decide +kernel
theorem i_L_law_802 : decode (mb 299) 802 = .ok (.iadd, 1) := by decide +kernel
theorem i_L_law_803 : decode (mb 299) 803 = .ok (.iaload, 1) := by decide +kernel
theorem i_L_law_804 : decode (mb 299) 804 = .ok (.invokevirtual 75, 3) := by decide +kernel
theorem i_L_law_807 : decode (mb 299) 807 = .ok (.if_icmp .eq 937, 3) := by decide +kernel
theorem i_L_law_810 : decode (mb 299) 810 = .ok (.iconst 0, 1) := by decide +kernel
theorem i_L_law_811 : decode (mb 299) 811 = .ok (.ireturn, 1) := by decide +kernel
theorem i_L_law_812 : decode (mb 299) 812 = .ok (.aload_n 1, 1) := by decide +kernel
theorem i_L_law_813 : decode (mb 299) 813 = .ok (.invokevirtual 76, 3) := by decide +kernel
theorem i_L_law_816 : decode (mb 299) 816 = .ok (.aload_n 2, 1) := by decide +kernel
theorem i_L_law_817 : decode (mb 299) 817 = .ok (.invokevirtual 79, 3) := by decide +kernel
theorem i_L_law_820 : decode (mb 299) 820 = .ok (.if_icmp .eq 924, 3) := by decide +kernel
theorem i_L_law_823 : decode (mb 299) 823 = .ok (.iconst 0, 1) := by decide +kernel
theorem i_L_law_824 : decode (mb 299) 824 = .ok (.ireturn, 1) := by decide +kernel
theorem i_L_law_825 : decode (mb 299) 825 = .ok (.aload_n 1, 1) := by decide +kernel
theorem i_L_law_826 : decode (mb 299) 826 = .ok (.invokevirtual 80, 3) := by decide +kernel
theorem i_L_law_829 : decode (mb 299) 829 = .ok (.aload_n 2, 1) := by decide +kernel
theorem i_L_law_830 : decode (mb 299) 830 = .ok (.invokevirtual 83, 3) := by decide +kernel
theorem i_L_law_833 : decode (mb 299) 833 = .ok (.if_icmp .eq 911, 3) := by decide +kernel
theorem i_L_law_836 : decode (mb 299) 836 = .ok (.iconst 0, 1) := by decide +kernel
theorem i_L_law_837 : decode (mb 299) 837 = .ok (.ireturn, 1) := by decide +kernel
theorem i_L_law_838 : decode (mb 299) 838 = .ok (.aload_n 1, 1) := by decide +kernel
theorem i_L_law_839 : decode (mb 299) 839 = .ok (.aload_n 0, 1) := by decide +kernel
theorem i_L_law_840 : decode (mb 299) 840 = .ok (.iload_n 3, 1) := by decide +kernel
theorem i_L_law_841 : decode (mb 299) 841 = .ok (.iconst 1, 1) := by decide +kernel
theorem i_L_law_842 : decode (mb 299) 842 = .ok (.iadd, 1) := by decide +kernel
theorem i_L_law_843 : decode (mb 299) 843 = .ok (.iaload, 1) := by decide +kernel
theorem i_L_law_844 : decode (mb 299) 844 = .ok (.aload_n 0, 1) := by decide +kernel
theorem i_L_law_845 : decode (mb 299) 845 = .ok (.iload_n 3, 1) := by decide +kernel
theorem i_L_law_846 : decode (mb 299) 846 = .ok (.iconst 2, 1) := by decide +kernel
theorem i_L_law_847 : decode (mb 299) 847 = .ok (.iadd, 1) := by decide +kernel
theorem i_L_law_848 : decode (mb 299) 848 = .ok (.iaload, 1) := by decide +kernel
theorem i_L_law_849 : decode (mb 299) 849 = .ok (.invokevirtual 84, 3) := by decide +kernel
theorem i_L_law_852 : decode (mb 299) 852 = .ok (.aload_n 2, 1) := by decide +kernel
theorem i_L_law_853 : decode (mb 299) 853 = .ok (.aload_n 0, 1) := by decide +kernel
theorem i_L_law_854 : decode (mb 299) 854 = .ok (.iload_n 3, 1) := by decide +kernel
theorem i_L_law_855 : decode (mb 299) 855 = .ok (.iconst 1, 1) := by decide +kernel
theorem i_L_law_856 : decode (mb 299) 856 = .ok (.iadd, 1) := by decide +kernel
theorem i_L_law_857 : decode (mb 299) 857 = .ok (.iaload, 1) := by decide +kernel
theorem i_L_law_858 : decode (mb 299) 858 = .ok (.aload_n 0, 1) := by decide +kernel
theorem i_L_law_859 : decode (mb 299) 859 = .ok (.iload_n 3, 1) := by decide +kernel
theorem i_L_law_860 : decode (mb 299) 860 = .ok (.iconst 2, 1) := by decide +kernel
theorem i_L_law_861 : decode (mb 299) 861 = .ok (.iadd, 1) := by decide +kernel
theorem i_L_law_862 : decode (mb 299) 862 = .ok (.iaload, 1) := by decide +kernel
theorem i_L_law_863 : decode (mb 299) 863 = .ok (.invokevirtual 87, 3) := by decide +kernel
theorem i_L_law_866 : decode (mb 299) 866 = .ok (.if_icmp .eq 878, 3) := by decide +kernel
theorem i_L_law_869 : decode (mb 299) 869 = .ok (.iconst 0, 1) := by decide +kernel
theorem i_L_law_870 : decode (mb 299) 870 = .ok (.ireturn, 1) := by decide +kernel
theorem i_L_law_871 : decode (mb 299) 871 = .ok (.aload_n 1, 1) := by decide +kernel
theorem i_L_law_872 : decode (mb 299) 872 = .ok (.aload_n 0, 1) := by decide +kernel
theorem i_L_law_873 : decode (mb 299) 873 = .ok (.iload_n 3, 1) := by decide +kernel
theorem i_L_law_874 : decode (mb 299) 874 = .ok (.iconst 1, 1) := by decide +kernel
theorem i_L_law_875 : decode (mb 299) 875 = .ok (.iadd, 1) := by decide +kernel
theorem i_L_law_876 : decode (mb 299) 876 = .ok (.iaload, 1) := by decide +kernel
theorem i_L_law_877 : decode (mb 299) 877 = .ok (.aload_n 0, 1) := by decide +kernel
theorem i_L_law_878 : decode (mb 299) 878 = .ok (.iload_n 3, 1) := by decide +kernel
theorem i_L_law_879 : decode (mb 299) 879 = .ok (.iconst 2, 1) := by decide +kernel
theorem i_L_law_880 : decode (mb 299) 880 = .ok (.iadd, 1) := by decide +kernel
theorem i_L_law_881 : decode (mb 299) 881 = .ok (.iaload, 1) := by decide +kernel
theorem i_L_law_882 : decode (mb 299) 882 = .ok (.invokevirtual 88, 3) := by decide +kernel
theorem i_L_law_885 : decode (mb 299) 885 = .ok (.aload_n 2, 1) := by decide +kernel
theorem i_L_law_886 : decode (mb 299) 886 = .ok (.aload_n 0, 1) := by decide +kernel
theorem i_L_law_887 : decode (mb 299) 887 = .ok (.iload_n 3, 1) := by decide +kernel
theorem i_L_law_888 : decode (mb 299) 888 = .ok (.iconst 1, 1) := by decide +kernel
theorem i_L_law_889 : decode (mb 299) 889 = .ok (.iadd, 1) := by decide +kernel
theorem i_L_law_890 : decode (mb 299) 890 = .ok (.iaload, 1) := by decide +kernel
theorem i_L_law_891 : decode (mb 299) 891 = .ok (.aload_n 0, 1) := by decide +kernel
theorem i_L_law_892 : decode (mb 299) 892 = .ok (.iload_n 3, 1) := by decide +kernel
theorem i_L_law_893 : decode (mb 299) 893 = .ok (.iconst 2, 1) := by decide +kernel
theorem i_L_law_894 : decode (mb 299) 894 = .ok (.iadd, 1) := by decide +kernel
theorem i_L_law_895 : decode (mb 299) 895 = .ok (.iaload, 1) := by decide +kernel
theorem i_L_law_896 : decode (mb 299) 896 = .ok (.invokevirtual 91, 3) := by decide +kernel
theorem i_L_law_899 : decode (mb 299) 899 = .ok (.if_icmp .eq 845, 3) := by decide +kernel
theorem i_L_law_902 : decode (mb 299) 902 = .ok (.iconst 0, 1) := by decide +kernel
theorem i_L_law_903 : decode (mb 299) 903 = .ok (.ireturn, 1) := by decide +kernel
theorem i_L_law_904 : decode (mb 299) 904 = .ok (.aload_n 1, 1) := by decide +kernel
theorem i_L_law_905 : decode (mb 299) 905 = .ok (.aload_n 0, 1) := by decide +kernel
theorem i_L_law_906 : decode (mb 299) 906 = .ok (.iload_n 3, 1) := by decide +kernel
theorem i_L_law_907 : decode (mb 299) 907 = .ok (.iconst 1, 1) := by decide +kernel
theorem i_L_law_908 : decode (mb 299) 908 = .ok (.iadd, 1) := by decide +kernel
theorem i_L_law_909 : decode (mb 299) 909 = .ok (.iaload, 1) := by decide +kernel
theorem i_L_law_910 : decode (mb 299) 910 = .ok (.invokevirtual 92, 3) := by decide +kernel
theorem i_L_law_913 : decode (mb 299) 913 = .ok (.aload_n 2, 1) := by decide +kernel
theorem i_L_law_914 : decode (mb 299) 914 = .ok (.aload_n 0, 1) := by decide +kernel
theorem i_L_law_915 : decode (mb 299) 915 = .ok (.iload_n 3, 1) := by decide +kernel
theorem i_L_law_916 : decode (mb 299) 916 = .ok (.iconst 1, 1) := by decide +kernel
theorem i_L_law_917 : decode (mb 299) 917 = .ok (.iadd, 1) := by decide +kernel
theorem i_L_law_918 : decode (mb 299) 918 = .ok (.iaload, 1) := by decide +kernel
theorem i_L_law_919 : decode (mb 299) 919 = .ok (.invokevirtual 95, 3) := by decide +kernel
theorem i_L_law_922 : decode (mb 299) 922 = .ok (.if_icmp .eq 822, 3) := by decide +kernel
theorem i_L_law_925 : decode (mb 299) 925 = .ok (.iconst 0, 1) := by decide +kernel
theorem i_L_law_926 : decode (mb 299) 926 = .ok (.ireturn, 1) := by decide +kernel
theorem i_L_law_927 : decode (mb 299) 927 = .ok (.aload_n 1, 1) := by decide +kernel
theorem i_L_law_928 : decode (mb 299) 928 = .ok (.aload_n 0, 1) := by decide +kernel
theorem i_L_law_929 : decode (mb 299) 929 = .ok (.iload_n 3, 1) := by decide +kernel
theorem i_L_law_930 : decode (mb 299) 930 = .ok (.iconst 1, 1) := by decide +kernel
theorem i_L_law_931 : decode (mb 299) 931 = .ok (.iadd, 1) := by decide +kernel
theorem i_L_law_932 : decode (mb 299) 932 = .ok (.iaload, 1) := by decide +kernel
theorem i_L_law_933 : decode (mb 299) 933 = .ok (.invokevirtual 96, 3) := by decide +kernel
theorem i_L_law_936 : decode (mb 299) 936 = .ok (.aload_n 2, 1) := by decide +kernel
theorem i_L_law_937 : decode (mb 299) 937 = .ok (.aload_n 0, 1) := by decide +kernel
theorem i_L_law_938 : decode (mb 299) 938 = .ok (.iload_n 3, 1) := by decide +kernel
theorem i_L_law_939 : decode (mb 299) 939 = .ok (.iconst 1, 1) := by decide +kernel
theorem i_L_law_940 : decode (mb 299) 940 = .ok (.iadd, 1) := by decide +kernel
theorem i_L_law_941 : decode (mb 299) 941 = .ok (.iaload, 1) := by decide +kernel
theorem i_L_law_942 : decode (mb 299) 942 = .ok (.invokevirtual 99, 3) := by decide +kernel
theorem i_L_law_945 : decode (mb 299) 945 = .ok (.if_icmp .eq 799, 3) := by decide +kernel
theorem i_L_law_948 : decode (mb 299) 948 = .ok (.iconst 0, 1) := by decide +kernel
theorem i_L_law_949 : decode (mb 299) 949 = .ok (.ireturn, 1) := by decide +kernel
theorem i_L_law_950 : decode (mb 299) 950 = .ok (.aload_n 1, 1) := by decide +kernel
theorem i_L_law_951 : decode (mb 299) 951 = .ok (.aload_n 0, 1) := by decide +kernel
theorem i_L_law_952 : decode (mb 299) 952 = .ok (.iload_n 3, 1) := by decide +kernel
theorem i_L_law_953 : decode (mb 299) 953 = .ok (.iconst 1, 1) := by decide +kernel
theorem i_L_law_954 : decode (mb 299) 954 = .ok (.iadd, 1) := by decide +kernel
theorem i_L_law_955 : decode (mb 299) 955 = .ok (.iaload, 1) := by decide +kernel
theorem i_L_law_956 : decode (mb 299) 956 = .ok (.aload_n 0, 1) := by decide +kernel
theorem i_L_law_957 : decode (mb 299) 957 = .ok (.iload_n 3, 1) := by decide +kernel
theorem i_L_law_958 : decode (mb 299) 958 = .ok (.iconst 2, 1) := by decide +kernel
theorem i_L_law_959 : decode (mb 299) 959 = .ok (.iadd, 1) := by decide +kernel
theorem i_L_law_960 : decode (mb 299) 960 = .ok (.iaload, 1) := by decide +kernel
theorem i_L_law_961 : decode (mb 299) 961 = .ok (.invokevirtual 100, 3) := by decide +kernel
theorem i_L_law_964 : decode (mb 299) 964 = .ok (.aload_n 2, 1) := by decide +kernel
theorem i_L_law_965 : decode (mb 299) 965 = .ok (.aload_n 0, 1) := by decide +kernel
theorem i_L_law_966 : decode (mb 299) 966 = .ok (.iload_n 3, 1) := by decide +kernel
theorem i_L_law_967 : decode (mb 299) 967 = .ok (.iconst 1, 1) := by decide +kernel
theorem i_L_law_968 : decode (mb 299) 968 = .ok (.iadd, 1) := by decide +kernel
theorem i_L_law_969 : decode (mb 299) 969 = .ok (.iaload, 1) := by decide +kernel
theorem i_L_law_970 : decode (mb 299) 970 = .ok (.aload_n 0, 1) := by decide +kernel
theorem i_L_law_971 : decode (mb 299) 971 = .ok (.iload_n 3, 1) := by decide +kernel
theorem i_L_law_972 : decode (mb 299) 972 = .ok (.iconst 2, 1) := by decide +kernel
theorem i_L_law_973 : decode (mb 299) 973 = .ok (.iadd, 1) := by decide +kernel
theorem i_L_law_974 : decode (mb 299) 974 = .ok (.iaload, 1) := by decide +kernel
theorem i_L_law_975 : decode (mb 299) 975 = .ok (.invokevirtual 103, 3) := by decide +kernel
theorem i_L_law_978 : decode (mb 299) 978 = .ok (.if_icmp .eq 766, 3) := by decide +kernel
theorem i_L_law_981 : decode (mb 299) 981 = .ok (.iconst 0, 1) := by decide +kernel
theorem i_L_law_982 : decode (mb 299) 982 = .ok (.ireturn, 1) := by decide +kernel
theorem i_L_law_983 : decode (mb 299) 983 = .ok (.aload_n 1, 1) := by decide +kernel
theorem i_L_law_984 : decode (mb 299) 984 = .ok (.aload_n 0, 1) := by decide +kernel
theorem i_L_law_985 : decode (mb 299) 985 = .ok (.iload_n 3, 1) := by decide +kernel
theorem i_L_law_986 : decode (mb 299) 986 = .ok (.iconst 1, 1) := by decide +kernel
theorem i_L_law_987 : decode (mb 299) 987 = .ok (.iadd, 1) := by decide +kernel
theorem i_L_law_988 : decode (mb 299) 988 = .ok (.iaload, 1) := by decide +kernel
theorem i_L_law_989 : decode (mb 299) 989 = .ok (.aload_n 0, 1) := by decide +kernel
theorem i_L_law_990 : decode (mb 299) 990 = .ok (.iload_n 3, 1) := by decide +kernel
theorem i_L_law_991 : decode (mb 299) 991 = .ok (.iconst 2, 1) := by decide +kernel
theorem i_L_law_992 : decode (mb 299) 992 = .ok (.iadd, 1) := by decide +kernel
theorem i_L_law_993 : decode (mb 299) 993 = .ok (.iaload, 1) := by decide +kernel
theorem i_L_law_994 : decode (mb 299) 994 = .ok (.aload_n 0, 1) := by decide +kernel
theorem i_L_law_995 : decode (mb 299) 995 = .ok (.iload_n 3, 1) := by decide +kernel
theorem i_L_law_996 : decode (mb 299) 996 = .ok (.iconst 3, 1) := by decide +kernel
theorem i_L_law_997 : decode (mb 299) 997 = .ok (.iadd, 1) := by decide +kernel
theorem i_L_law_998 : decode (mb 299) 998 = .ok (.iaload, 1) := by decide +kernel
theorem i_L_law_999 : decode (mb 299) 999 = .ok (.invokevirtual 104, 3) := by decide +kernel
theorem i_L_law_1002 : decode (mb 299) 1002 = .ok (.aload_n 2, 1) := by decide +kernel
theorem i_L_law_1003 : decode (mb 299) 1003 = .ok (.aload_n 0, 1) := by decide +kernel
theorem i_L_law_1004 : decode (mb 299) 1004 = .ok (.iload_n 3, 1) := by decide +kernel
theorem i_L_law_1005 : decode (mb 299) 1005 = .ok (.iconst 1, 1) := by decide +kernel
theorem i_L_law_1006 : decode (mb 299) 1006 = .ok (.iadd, 1) := by decide +kernel
theorem i_L_law_1007 : decode (mb 299) 1007 = .ok (.iaload, 1) := by decide +kernel
theorem i_L_law_1008 : decode (mb 299) 1008 = .ok (.aload_n 0, 1) := by decide +kernel
theorem i_L_law_1009 : decode (mb 299) 1009 = .ok (.iload_n 3, 1) := by decide +kernel
theorem i_L_law_1010 : decode (mb 299) 1010 = .ok (.iconst 2, 1) := by decide +kernel
theorem i_L_law_1011 : decode (mb 299) 1011 = .ok (.iadd, 1) := by decide +kernel
theorem i_L_law_1012 : decode (mb 299) 1012 = .ok (.iaload, 1) := by decide +kernel
theorem i_L_law_1013 : decode (mb 299) 1013 = .ok (.aload_n 0, 1) := by decide +kernel
theorem i_L_law_1014 : decode (mb 299) 1014 = .ok (.iload_n 3, 1) := by decide +kernel
theorem i_L_law_1015 : decode (mb 299) 1015 = .ok (.iconst 3, 1) := by decide +kernel
theorem i_L_law_1016 : decode (mb 299) 1016 = .ok (.iadd, 1) := by decide +kernel
theorem i_L_law_1017 : decode (mb 299) 1017 = .ok (.iaload, 1) := by decide +kernel
theorem i_L_law_1018 : decode (mb 299) 1018 = .ok (.invokevirtual 107, 3) := by decide +kernel
theorem i_L_law_1021 : decode (mb 299) 1021 = .ok (.if_icmp .eq 723, 3) := by decide +kernel
theorem i_L_law_1024 : decode (mb 299) 1024 = .ok (.iconst 0, 1) := by decide +kernel
theorem i_L_law_1025 : decode (mb 299) 1025 = .ok (.ireturn, 1) := by decide +kernel
theorem i_L_law_1026 : decode (mb 299) 1026 = .ok (.aload_n 1, 1) := by decide +kernel
theorem i_L_law_1027 : decode (mb 299) 1027 = .ok (.aload_n 0, 1) := by decide +kernel
theorem i_L_law_1028 : decode (mb 299) 1028 = .ok (.iload_n 3, 1) := by decide +kernel
theorem i_L_law_1029 : decode (mb 299) 1029 = .ok (.iconst 1, 1) := by decide +kernel
theorem i_L_law_1030 : decode (mb 299) 1030 = .ok (.iadd, 1) := by decide +kernel
theorem i_L_law_1031 : decode (mb 299) 1031 = .ok (.iaload, 1) := by decide +kernel
theorem i_L_law_1032 : decode (mb 299) 1032 = .ok (.invokevirtual 108, 3) := by decide +kernel
theorem i_L_law_1035 : decode (mb 299) 1035 = .ok (.aload_n 2, 1) := by decide +kernel
theorem i_L_law_1036 : decode (mb 299) 1036 = .ok (.aload_n 0, 1) := by decide +kernel
theorem i_L_law_1037 : decode (mb 299) 1037 = .ok (.iload_n 3, 1) := by decide +kernel
theorem i_L_law_1038 : decode (mb 299) 1038 = .ok (.iconst 1, 1) := by decide +kernel
theorem i_L_law_1039 : decode (mb 299) 1039 = .ok (.iadd, 1) := by decide +kernel
theorem i_L_law_1040 : decode (mb 299) 1040 = .ok (.iaload, 1) := by decide +kernel
theorem i_L_law_1041 : decode (mb 299) 1041 = .ok (.invokevirtual 111, 3) := by decide +kernel
theorem i_L_law_1044 : decode (mb 299) 1044 = .ok (.if_icmp .eq 700, 3) := by decide +kernel
theorem i_L_law_1047 : decode (mb 299) 1047 = .ok (.iconst 0, 1) := by decide +kernel
theorem i_L_law_1048 : decode (mb 299) 1048 = .ok (.ireturn, 1) := by decide +kernel
theorem i_L_law_1049 : decode (mb 299) 1049 = .ok (.aload_n 1, 1) := by decide +kernel
theorem i_L_law_1050 : decode (mb 299) 1050 = .ok (.aload_n 0, 1) := by decide +kernel
theorem i_L_law_1051 : decode (mb 299) 1051 = .ok (.iload_n 3, 1) := by decide +kernel
theorem i_L_law_1052 : decode (mb 299) 1052 = .ok (.iconst 1, 1) := by decide +kernel
theorem i_L_law_1053 : decode (mb 299) 1053 = .ok (.iadd, 1) := by decide +kernel
theorem i_L_law_1054 : decode (mb 299) 1054 = .ok (.iaload, 1) := by decide +kernel
theorem i_L_law_1055 : decode (mb 299) 1055 = .ok (.aload_n 0, 1) := by decide +kernel
theorem i_L_law_1056 : decode (mb 299) 1056 = .ok (.iload_n 3, 1) := by decide +kernel
theorem i_L_law_1057 : decode (mb 299) 1057 = .ok (.iconst 2, 1) := by decide +kernel
theorem i_L_law_1058 : decode (mb 299) 1058 = .ok (.iadd, 1) := by decide +kernel
theorem i_L_law_1059 : decode (mb 299) 1059 = .ok (.iaload, 1) := by decide +kernel
theorem i_L_law_1060 : decode (mb 299) 1060 = .ok (.invokevirtual 112, 3) := by decide +kernel
theorem i_L_law_1063 : decode (mb 299) 1063 = .ok (.aload_n 2, 1) := by decide +kernel
theorem i_L_law_1064 : decode (mb 299) 1064 = .ok (.aload_n 0, 1) := by decide +kernel
theorem i_L_law_1065 : decode (mb 299) 1065 = .ok (.iload_n 3, 1) := by decide +kernel
theorem i_L_law_1066 : decode (mb 299) 1066 = .ok (.iconst 1, 1) := by decide +kernel
theorem i_L_law_1067 : decode (mb 299) 1067 = .ok (.iadd, 1) := by decide +kernel
theorem i_L_law_1068 : decode (mb 299) 1068 = .ok (.iaload, 1) := by decide +kernel
theorem i_L_law_1069 : decode (mb 299) 1069 = .ok (.aload_n 0, 1) := by decide +kernel
theorem i_L_law_1070 : decode (mb 299) 1070 = .ok (.iload_n 3, 1) := by decide +kernel
theorem i_L_law_1071 : decode (mb 299) 1071 = .ok (.iconst 2, 1) := by decide +kernel
theorem i_L_law_1072 : decode (mb 299) 1072 = .ok (.iadd, 1) := by decide +kernel
theorem i_L_law_1073 : decode (mb 299) 1073 = .ok (.iaload, 1) := by decide +kernel
theorem i_L_law_1074 : decode (mb 299) 1074 = .ok (.invokevirtual 115, 3) := by decide +kernel
theorem i_L_law_1077 : decode (mb 299) 1077 = .ok (.if_icmp .eq 667, 3) := by decide +kernel
theorem i_L_law_1080 : decode (mb 299) 1080 = .ok (.iconst 0, 1) := by decide +kernel
theorem i_L_law_1081 : decode (mb 299) 1081 = .ok (.ireturn, 1) := by decide +kernel
theorem i_L_law_1082 : decode (mb 299) 1082 = .ok (.aload_n 1, 1) := by decide +kernel
theorem i_L_law_1083 : decode (mb 299) 1083 = .ok (.aload_n 0, 1) := by decide +kernel
theorem i_L_law_1084 : decode (mb 299) 1084 = .ok (.iload_n 3, 1) := by decide +kernel
theorem i_L_law_1085 : decode (mb 299) 1085 = .ok (.iconst 1, 1) := by decide +kernel
theorem i_L_law_1086 : decode (mb 299) 1086 = .ok (.iadd, 1) := by decide +kernel
theorem i_L_law_1087 : decode (mb 299) 1087 = .ok (.iaload, 1) := by decide +kernel
theorem i_L_law_1088 : decode (mb 299) 1088 = .ok (.aload_n 0, 1) := by decide +kernel
theorem i_L_law_1089 : decode (mb 299) 1089 = .ok (.iload_n 3, 1) := by decide +kernel
theorem i_L_law_1090 : decode (mb 299) 1090 = .ok (.iconst 2, 1) := by decide +kernel
theorem i_L_law_1091 : decode (mb 299) 1091 = .ok (.iadd, 1) := by decide +kernel
theorem i_L_law_1092 : decode (mb 299) 1092 = .ok (.iaload, 1) := by decide +kernel
theorem i_L_law_1093 : decode (mb 299) 1093 = .ok (.invokevirtual 116, 3) := by decide +kernel
theorem i_L_law_1096 : decode (mb 299) 1096 = .ok (.aload_n 2, 1) := by decide +kernel
theorem i_L_law_1097 : decode (mb 299) 1097 = .ok (.aload_n 0, 1) := by decide +kernel
theorem i_L_law_1098 : decode (mb 299) 1098 = .ok (.iload_n 3, 1) := by decide +kernel
theorem i_L_law_1099 : decode (mb 299) 1099 = .ok (.iconst 1, 1) := by decide +kernel
theorem i_L_law_1100 : decode (mb 299) 1100 = .ok (.iadd, 1) := by decide +kernel
theorem i_L_law_1101 : decode (mb 299) 1101 = .ok (.iaload, 1) := by decide +kernel
theorem i_L_law_1102 : decode (mb 299) 1102 = .ok (.aload_n 0, 1) := by decide +kernel
theorem i_L_law_1103 : decode (mb 299) 1103 = .ok (.iload_n 3, 1) := by decide +kernel
theorem i_L_law_1104 : decode (mb 299) 1104 = .ok (.iconst 2, 1) := by decide +kernel
theorem i_L_law_1105 : decode (mb 299) 1105 = .ok (.iadd, 1) := by decide +kernel
theorem i_L_law_1106 : decode (mb 299) 1106 = .ok (.iaload, 1) := by decide +kernel
theorem i_L_law_1107 : decode (mb 299) 1107 = .ok (.invokevirtual 119, 3) := by decide +kernel
theorem i_L_law_1110 : decode (mb 299) 1110 = .ok (.if_icmp .eq 634, 3) := by decide +kernel
theorem i_L_law_1113 : decode (mb 299) 1113 = .ok (.iconst 0, 1) := by decide +kernel
theorem i_L_law_1114 : decode (mb 299) 1114 = .ok (.ireturn, 1) := by decide +kernel
theorem i_L_law_1115 : decode (mb 299) 1115 = .ok (.aload_n 1, 1) := by decide +kernel
theorem i_L_law_1116 : decode (mb 299) 1116 = .ok (.invokevirtual 120, 3) := by decide +kernel
theorem i_L_law_1119 : decode (mb 299) 1119 = .ok (.aload_n 2, 1) := by decide +kernel
theorem i_L_law_1120 : decode (mb 299) 1120 = .ok (.invokevirtual 123, 3) := by decide +kernel
theorem i_L_law_1123 : decode (mb 299) 1123 = .ok (.if_icmp .eq 621, 3) := by decide +kernel
theorem i_L_law_1126 : decode (mb 299) 1126 = .ok (.iconst 0, 1) := by decide +kernel
theorem i_L_law_1127 : decode (mb 299) 1127 = .ok (.ireturn, 1) := by decide +kernel
theorem i_L_law_1128 : decode (mb 299) 1128 = .ok (.aload_n 1, 1) := by decide +kernel
theorem i_L_law_1129 : decode (mb 299) 1129 = .ok (.aload_n 0, 1) := by decide +kernel
theorem i_L_law_1130 : decode (mb 299) 1130 = .ok (.iload_n 3, 1) := by decide +kernel
theorem i_L_law_1131 : decode (mb 299) 1131 = .ok (.iconst 1, 1) := by decide +kernel
theorem i_L_law_1132 : decode (mb 299) 1132 = .ok (.iadd, 1) := by decide +kernel
theorem i_L_law_1133 : decode (mb 299) 1133 = .ok (.iaload, 1) := by decide +kernel
theorem i_L_law_1134 : decode (mb 299) 1134 = .ok (.invokevirtual 124, 3) := by decide +kernel
theorem i_L_law_1137 : decode (mb 299) 1137 = .ok (.aload_n 2, 1) := by decide +kernel
theorem i_L_law_1138 : decode (mb 299) 1138 = .ok (.aload_n 0, 1) := by decide +kernel
theorem i_L_law_1139 : decode (mb 299) 1139 = .ok (.iload_n 3, 1) := by decide +kernel
theorem i_L_law_1140 : decode (mb 299) 1140 = .ok (.iconst 1, 1) := by decide +kernel
theorem i_L_law_1141 : decode (mb 299) 1141 = .ok (.iadd, 1) := by decide +kernel
theorem i_L_law_1142 : decode (mb 299) 1142 = .ok (.iaload, 1) := by decide +kernel
theorem i_L_law_1143 : decode (mb 299) 1143 = .ok (.invokevirtual 127, 3) := by decide +kernel
theorem i_L_law_1146 : decode (mb 299) 1146 = .ok (.if_icmp .eq 598, 3) := by decide +kernel
theorem i_L_law_1149 : decode (mb 299) 1149 = .ok (.iconst 0, 1) := by decide +kernel
theorem i_L_law_1150 : decode (mb 299) 1150 = .ok (.ireturn, 1) := by decide +kernel
theorem i_L_law_1151 : decode (mb 299) 1151 = .ok (.aload_n 1, 1) := by decide +kernel
theorem i_L_law_1152 : decode (mb 299) 1152 = .ok (.aload_n 0, 1) := by decide +kernel
theorem i_L_law_1153 : decode (mb 299) 1153 = .ok (.iload_n 3, 1) := by decide +kernel
theorem i_L_law_1154 : decode (mb 299) 1154 = .ok (.iconst 1, 1) := by decide +kernel
theorem i_L_law_1155 : decode (mb 299) 1155 = .ok (.iadd, 1) := by decide +kernel
theorem i_L_law_1156 : decode (mb 299) 1156 = .ok (.iaload, 1) := by decide +kernel
theorem i_L_law_1157 : decode (mb 299) 1157 = .ok (.invokevirtual 128, 3) := by decide +kernel
theorem i_L_law_1160 : decode (mb 299) 1160 = .ok (.aload_n 2, 1) := by decide +kernel
theorem i_L_law_1161 : decode (mb 299) 1161 = .ok (.aload_n 0, 1) := by decide +kernel
theorem i_L_law_1162 : decode (mb 299) 1162 = .ok (.iload_n 3, 1) := by decide +kernel
theorem i_L_law_1163 : decode (mb 299) 1163 = .ok (.iconst 1, 1) := by decide +kernel
theorem i_L_law_1164 : decode (mb 299) 1164 = .ok (.iadd, 1) := by decide +kernel
theorem i_L_law_1165 : decode (mb 299) 1165 = .ok (.iaload, 1) := by decide +kernel
theorem i_L_law_1166 : decode (mb 299) 1166 = .ok (.invokevirtual 131, 3) := by decide +kernel
theorem i_L_law_1169 : decode (mb 299) 1169 = .ok (.if_icmp .eq 575, 3) := by decide +kernel
theorem i_L_law_1172 : decode (mb 299) 1172 = .ok (.iconst 0, 1) := by decide +kernel
theorem i_L_law_1173 : decode (mb 299) 1173 = .ok (.ireturn, 1) := by decide +kernel
theorem i_L_law_1174 : decode (mb 299) 1174 = .ok (.aload_n 1, 1) := by decide +kernel
theorem i_L_law_1175 : decode (mb 299) 1175 = .ok (.invokevirtual 132, 3) := by decide +kernel
theorem i_L_law_1178 : decode (mb 299) 1178 = .ok (.aload_n 2, 1) := by decide +kernel
theorem i_L_law_1179 : decode (mb 299) 1179 = .ok (.invokevirtual 135, 3) := by decide +kernel
theorem i_L_law_1182 : decode (mb 299) 1182 = .ok (.if_icmp .eq 562, 3) := by decide +kernel
theorem i_L_law_1185 : decode (mb 299) 1185 = .ok (.iconst 0, 1) := by decide +kernel
theorem i_L_law_1186 : decode (mb 299) 1186 = .ok (.ireturn, 1) := by decide +kernel
theorem i_L_law_1187 : decode (mb 299) 1187 = .ok (.aload_n 1, 1) := by decide +kernel
theorem i_L_law_1188 : decode (mb 299) 1188 = .ok (.aload_n 0, 1) := by decide +kernel
theorem i_L_law_1189 : decode (mb 299) 1189 = .ok (.iload_n 3, 1) := by decide +kernel
theorem i_L_law_1190 : decode (mb 299) 1190 = .ok (.iconst 1, 1) := by decide +kernel
theorem i_L_law_1191 : decode (mb 299) 1191 = .ok (.iadd, 1) := by decide +kernel
theorem i_L_law_1192 : decode (mb 299) 1192 = .ok (.iaload, 1) := by decide +kernel
theorem i_L_law_1193 : decode (mb 299) 1193 = .ok (.invokevirtual 136, 3) := by decide +kernel
theorem i_L_law_1196 : decode (mb 299) 1196 = .ok (.aload_n 2, 1) := by decide +kernel
theorem i_L_law_1197 : decode (mb 299) 1197 = .ok (.aload_n 0, 1) := by decide +kernel
theorem i_L_law_1198 : decode (mb 299) 1198 = .ok (.iload_n 3, 1) := by decide +kernel
theorem i_L_law_1199 : decode (mb 299) 1199 = .ok (.iconst 1, 1) := by decide +kernel
theorem i_L_law_1200 : decode (mb 299) 1200 = .ok (.iadd, 1) := by decide +kernel
theorem i_L_law_1201 : decode (mb 299) 1201 = .ok (.iaload, 1) := by decide +kernel
theorem i_L_law_1202 : decode (mb 299) 1202 = .ok (.invokevirtual 139, 3) := by decide +kernel
theorem i_L_law_1205 : decode (mb 299) 1205 = .ok (.if_icmp .eq 539, 3) := by decide +kernel
theorem i_L_law_1208 : decode (mb 299) 1208 = .ok (.iconst 0, 1) := by decide +kernel
theorem i_L_law_1209 : decode (mb 299) 1209 = .ok (.ireturn, 1) := by decide +kernel
theorem i_L_law_1210 : decode (mb 299) 1210 = .ok (.aload_n 1, 1) := by decide +kernel
theorem i_L_law_1211 : decode (mb 299) 1211 = .ok (.aload_n 0, 1) := by decide +kernel
theorem i_L_law_1212 : decode (mb 299) 1212 = .ok (.iload_n 3, 1) := by decide +kernel
theorem i_L_law_1213 : decode (mb 299) 1213 = .ok (.iconst 1, 1) := by decide +kernel
theorem i_L_law_1214 : decode (mb 299) 1214 = .ok (.iadd, 1) := by decide +kernel
theorem i_L_law_1215 : decode (mb 299) 1215 = .ok (.iaload, 1) := by decide +kernel
theorem i_L_law_1216 : decode (mb 299) 1216 = .ok (.invokevirtual 140, 3) := by decide +kernel
theorem i_L_law_1219 : decode (mb 299) 1219 = .ok (.aload_n 2, 1) := by decide +kernel
theorem i_L_law_1220 : decode (mb 299) 1220 = .ok (.aload_n 0, 1) := by decide +kernel
theorem i_L_law_1221 : decode (mb 299) 1221 = .ok (.iload_n 3, 1) := by decide +kernel
theorem i_L_law_1222 : decode (mb 299) 1222 = .ok (.iconst 1, 1) := by decide +kernel
theorem i_L_law_1223 : decode (mb 299) 1223 = .ok (.iadd, 1) := by decide +kernel
theorem i_L_law_1224 : decode (mb 299) 1224 = .ok (.iaload, 1) := by decide +kernel
theorem i_L_law_1225 : decode (mb 299) 1225 = .ok (.invokevirtual 143, 3) := by decide +kernel
theorem i_L_law_1228 : decode (mb 299) 1228 = .ok (.if_icmp .eq 516, 3) := by decide +kernel
theorem i_L_law_1231 : decode (mb 299) 1231 = .ok (.iconst 0, 1) := by decide +kernel
theorem i_L_law_1232 : decode (mb 299) 1232 = .ok (.ireturn, 1) := by decide +kernel
theorem i_L_law_1233 : decode (mb 299) 1233 = .ok (.aload_n 1, 1) := by decide +kernel
theorem i_L_law_1234 : decode (mb 299) 1234 = .ok (.invokevirtual 144, 3) := by decide +kernel
theorem i_L_law_1237 : decode (mb 299) 1237 = .ok (.aload_n 2, 1) := by decide +kernel
theorem i_L_law_1238 : decode (mb 299) 1238 = .ok (.invokevirtual 147, 3) := by decide +kernel
theorem i_L_law_1241 : decode (mb 299) 1241 = .ok (.if_icmp .eq 503, 3) := by decide +kernel
theorem i_L_law_1244 : decode (mb 299) 1244 = .ok (.iconst 0, 1) := by decide +kernel
theorem i_L_law_1245 : decode (mb 299) 1245 = .ok (.ireturn, 1) := by decide +kernel
theorem i_L_law_1246 : decode (mb 299) 1246 = .ok (.aload_n 1, 1) := by decide +kernel
theorem i_L_law_1247 : decode (mb 299) 1247 = .ok (.aload_n 0, 1) := by decide +kernel
theorem i_L_law_1248 : decode (mb 299) 1248 = .ok (.iload_n 3, 1) := by decide +kernel
theorem i_L_law_1249 : decode (mb 299) 1249 = .ok (.iconst 1, 1) := by decide +kernel
theorem i_L_law_1250 : decode (mb 299) 1250 = .ok (.iadd, 1) := by decide +kernel
theorem i_L_law_1251 : decode (mb 299) 1251 = .ok (.iaload, 1) := by decide +kernel
theorem i_L_law_1252 : decode (mb 299) 1252 = .ok (.invokevirtual 148, 3) := by decide +kernel
theorem i_L_law_1255 : decode (mb 299) 1255 = .ok (.aload_n 2, 1) := by decide +kernel
theorem i_L_law_1256 : decode (mb 299) 1256 = .ok (.aload_n 0, 1) := by decide +kernel
theorem i_L_law_1257 : decode (mb 299) 1257 = .ok (.iload_n 3, 1) := by decide +kernel
theorem i_L_law_1258 : decode (mb 299) 1258 = .ok (.iconst 1, 1) := by decide +kernel
theorem i_L_law_1259 : decode (mb 299) 1259 = .ok (.iadd, 1) := by decide +kernel
theorem i_L_law_1260 : decode (mb 299) 1260 = .ok (.iaload, 1) := by decide +kernel
theorem i_L_law_1261 : decode (mb 299) 1261 = .ok (.invokevirtual 151, 3) := by decide +kernel
theorem i_L_law_1264 : decode (mb 299) 1264 = .ok (.if_icmp .eq 480, 3) := by decide +kernel
theorem i_L_law_1267 : decode (mb 299) 1267 = .ok (.iconst 0, 1) := by decide +kernel
theorem i_L_law_1268 : decode (mb 299) 1268 = .ok (.ireturn, 1) := by decide +kernel
theorem i_L_law_1269 : decode (mb 299) 1269 = .ok (.aload_n 1, 1) := by decide +kernel
theorem i_L_law_1270 : decode (mb 299) 1270 = .ok (.invokevirtual 152, 3) := by decide +kernel
theorem i_L_law_1273 : decode (mb 299) 1273 = .ok (.aload_n 2, 1) := by decide +kernel
theorem i_L_law_1274 : decode (mb 299) 1274 = .ok (.invokevirtual 155, 3) := by decide +kernel
theorem i_L_law_1277 : decode (mb 299) 1277 = .ok (.if_icmp .eq 467, 3) := by decide +kernel
theorem i_L_law_1280 : decode (mb 299) 1280 = .ok (.iconst 0, 1) := by decide +kernel
theorem i_L_law_1281 : decode (mb 299) 1281 = .ok (.ireturn, 1) := by decide +kernel
theorem i_L_law_1282 : decode (mb 299) 1282 = .ok (.aload_n 1, 1) := by decide +kernel
theorem i_L_law_1283 : decode (mb 299) 1283 = .ok (.invokevirtual 156, 3) := by decide +kernel
theorem i_L_law_1286 : decode (mb 299) 1286 = .ok (.aload_n 2, 1) := by decide +kernel
theorem i_L_law_1287 : decode (mb 299) 1287 = .ok (.invokevirtual 159, 3) := by decide +kernel
theorem i_L_law_1290 : decode (mb 299) 1290 = .ok (.if_icmp .eq 454, 3) := by decide +kernel
theorem i_L_law_1293 : decode (mb 299) 1293 = .ok (.iconst 0, 1) := by decide +kernel
theorem i_L_law_1294 : decode (mb 299) 1294 = .ok (.ireturn, 1) := by decide +kernel
theorem i_L_law_1295 : decode (mb 299) 1295 = .ok (.aload_n 1, 1) := by decide +kernel
theorem i_L_law_1296 : decode (mb 299) 1296 = .ok (.aload_n 0, 1) := by decide +kernel
theorem i_L_law_1297 : decode (mb 299) 1297 = .ok (.iload_n 3, 1) := by decide +kernel
theorem i_L_law_1298 : decode (mb 299) 1298 = .ok (.iconst 1, 1) := by decide +kernel
theorem i_L_law_1299 : decode (mb 299) 1299 = .ok (.iadd, 1) := by decide +kernel
theorem i_L_law_1300 : decode (mb 299) 1300 = .ok (.iaload, 1) := by decide +kernel
theorem i_L_law_1301 : decode (mb 299) 1301 = .ok (.invokevirtual 160, 3) := by decide +kernel
theorem i_L_law_1304 : decode (mb 299) 1304 = .ok (.aload_n 2, 1) := by decide +kernel
theorem i_L_law_1305 : decode (mb 299) 1305 = .ok (.aload_n 0, 1) := by decide +kernel
theorem i_L_law_1306 : decode (mb 299) 1306 = .ok (.iload_n 3, 1) := by decide +kernel
theorem i_L_law_1307 : decode (mb 299) 1307 = .ok (.iconst 1, 1) := by decide +kernel
theorem i_L_law_1308 : decode (mb 299) 1308 = .ok (.iadd, 1) := by decide +kernel
theorem i_L_law_1309 : decode (mb 299) 1309 = .ok (.iaload, 1) := by decide +kernel
theorem i_L_law_1310 : decode (mb 299) 1310 = .ok (.invokevirtual 163, 3) := by decide +kernel
theorem i_L_law_1313 : decode (mb 299) 1313 = .ok (.if_icmp .eq 431, 3) := by decide +kernel
theorem i_L_law_1316 : decode (mb 299) 1316 = .ok (.iconst 0, 1) := by decide +kernel
theorem i_L_law_1317 : decode (mb 299) 1317 = .ok (.ireturn, 1) := by decide +kernel
theorem i_L_law_1318 : decode (mb 299) 1318 = .ok (.aload_n 1, 1) := by decide +kernel
theorem i_L_law_1319 : decode (mb 299) 1319 = .ok (.aload_n 0, 1) := by decide +kernel
theorem i_L_law_1320 : decode (mb 299) 1320 = .ok (.iload_n 3, 1) := by decide +kernel
theorem i_L_law_1321 : decode (mb 299) 1321 = .ok (.iconst 1, 1) := by decide +kernel
theorem i_L_law_1322 : decode (mb 299) 1322 = .ok (.iadd, 1) := by decide +kernel
theorem i_L_law_1323 : decode (mb 299) 1323 = .ok (.iaload, 1) := by decide +kernel
theorem i_L_law_1324 : decode (mb 299) 1324 = .ok (.invokevirtual 164, 3) := by decide +kernel
theorem i_L_law_1327 : decode (mb 299) 1327 = .ok (.aload_n 2, 1) := by decide +kernel
theorem i_L_law_1328 : decode (mb 299) 1328 = .ok (.aload_n 0, 1) := by decide +kernel
theorem i_L_law_1329 : decode (mb 299) 1329 = .ok (.iload_n 3, 1) := by decide +kernel
theorem i_L_law_1330 : decode (mb 299) 1330 = .ok (.iconst 1, 1) := by decide +kernel
theorem i_L_law_1331 : decode (mb 299) 1331 = .ok (.iadd, 1) := by decide +kernel
theorem i_L_law_1332 : decode (mb 299) 1332 = .ok (.iaload, 1) := by decide +kernel
theorem i_L_law_1333 : decode (mb 299) 1333 = .ok (.invokevirtual 167, 3) := by decide +kernel
theorem i_L_law_1336 : decode (mb 299) 1336 = .ok (.if_icmp .eq 408, 3) := by decide +kernel
theorem i_L_law_1339 : decode (mb 299) 1339 = .ok (.iconst 0, 1) := by decide +kernel
theorem i_L_law_1340 : decode (mb 299) 1340 = .ok (.ireturn, 1) := by decide +kernel
theorem i_L_law_1341 : decode (mb 299) 1341 = .ok (.aload_n 1, 1) := by decide +kernel
theorem i_L_law_1342 : decode (mb 299) 1342 = .ok (.invokevirtual 168, 3) := by decide +kernel
theorem i_L_law_1345 : decode (mb 299) 1345 = .ok (.aload_n 2, 1) := by decide +kernel
theorem i_L_law_1346 : decode (mb 299) 1346 = .ok (.invokevirtual 171, 3) := by decide +kernel
theorem i_L_law_1349 : decode (mb 299) 1349 = .ok (.if_icmp .eq 395, 3) := by decide +kernel
theorem i_L_law_1352 : decode (mb 299) 1352 = .ok (.iconst 0, 1) := by decide +kernel
theorem i_L_law_1353 : decode (mb 299) 1353 = .ok (.ireturn, 1) := by decide +kernel
theorem i_L_law_1354 : decode (mb 299) 1354 = .ok (.aload_n 1, 1) := by decide +kernel
theorem i_L_law_1355 : decode (mb 299) 1355 = .ok (.invokevirtual 172, 3) := by decide +kernel
theorem i_L_law_1358 : decode (mb 299) 1358 = .ok (.aload_n 2, 1) := by decide +kernel
theorem i_L_law_1359 : decode (mb 299) 1359 = .ok (.invokevirtual 175, 3) := by decide +kernel
theorem i_L_law_1362 : decode (mb 299) 1362 = .ok (.if_icmp .eq 382, 3) := by decide +kernel
theorem i_L_law_1365 : decode (mb 299) 1365 = .ok (.iconst 0, 1) := by decide +kernel
theorem i_L_law_1366 : decode (mb 299) 1366 = .ok (.ireturn, 1) := by decide +kernel
theorem i_L_law_1367 : decode (mb 299) 1367 = .ok (.aload_n 1, 1) := by decide +kernel
theorem i_L_law_1368 : decode (mb 299) 1368 = .ok (.invokevirtual 176, 3) := by decide +kernel
theorem i_L_law_1371 : decode (mb 299) 1371 = .ok (.aload_n 2, 1) := by decide +kernel
theorem i_L_law_1372 : decode (mb 299) 1372 = .ok (.invokevirtual 179, 3) := by decide +kernel
theorem i_L_law_1375 : decode (mb 299) 1375 = .ok (.if_icmp .eq 369, 3) := by decide +kernel
theorem i_L_law_1378 : decode (mb 299) 1378 = .ok (.iconst 0, 1) := by decide +kernel
theorem i_L_law_1379 : decode (mb 299) 1379 = .ok (.ireturn, 1) := by decide +kernel
theorem i_L_law_1380 : decode (mb 299) 1380 = .ok (.aload_n 1, 1) := by decide +kernel
theorem i_L_law_1381 : decode (mb 299) 1381 = .ok (.aload_n 0, 1) := by decide +kernel
theorem i_L_law_1382 : decode (mb 299) 1382 = .ok (.iload_n 3, 1) := by decide +kernel
theorem i_L_law_1383 : decode (mb 299) 1383 = .ok (.iconst 1, 1) := by decide +kernel
theorem i_L_law_1384 : decode (mb 299) 1384 = .ok (.iadd, 1) := by decide +kernel
theorem i_L_law_1385 : decode (mb 299) 1385 = .ok (.iaload, 1) := by decide +kernel
theorem i_L_law_1386 : decode (mb 299) 1386 = .ok (.aload_n 0, 1) := by decide +kernel
theorem i_L_law_1387 : decode (mb 299) 1387 = .ok (.iload_n 3, 1) := by decide +kernel
theorem i_L_law_1388 : decode (mb 299) 1388 = .ok (.iconst 2, 1) := by decide +kernel
theorem i_L_law_1389 : decode (mb 299) 1389 = .ok (.iadd, 1) := by decide +kernel
theorem i_L_law_1390 : decode (mb 299) 1390 = .ok (.iaload, 1) := by decide +kernel
theorem i_L_law_1391 : decode (mb 299) 1391 = .ok (.aload_n 0, 1) := by decide +kernel
theorem i_L_law_1392 : decode (mb 299) 1392 = .ok (.iload_n 3, 1) := by decide +kernel
theorem i_L_law_1393 : decode (mb 299) 1393 = .ok (.iconst 3, 1) := by decide +kernel
theorem i_L_law_1394 : decode (mb 299) 1394 = .ok (.iadd, 1) := by decide +kernel
theorem i_L_law_1395 : decode (mb 299) 1395 = .ok (.iaload, 1) := by decide +kernel
theorem i_L_law_1396 : decode (mb 299) 1396 = .ok (.invokevirtual 180, 3) := by decide +kernel
theorem i_L_law_1399 : decode (mb 299) 1399 = .ok (.aload_n 2, 1) := by decide +kernel
theorem i_L_law_1400 : decode (mb 299) 1400 = .ok (.aload_n 0, 1) := by decide +kernel
theorem i_L_law_1401 : decode (mb 299) 1401 = .ok (.iload_n 3, 1) := by decide +kernel
theorem i_L_law_1402 : decode (mb 299) 1402 = .ok (.iconst 1, 1) := by decide +kernel
theorem i_L_law_1403 : decode (mb 299) 1403 = .ok (.iadd, 1) := by decide +kernel
theorem i_L_law_1404 : decode (mb 299) 1404 = .ok (.iaload, 1) := by decide +kernel
theorem i_L_law_1405 : decode (mb 299) 1405 = .ok (.aload_n 0, 1) := by decide +kernel
theorem i_L_law_1406 : decode (mb 299) 1406 = .ok (.iload_n 3, 1) := by decide +kernel
theorem i_L_law_1407 : decode (mb 299) 1407 = .ok (.iconst 2, 1) := by decide +kernel
theorem i_L_law_1408 : decode (mb 299) 1408 = .ok (.iadd, 1) := by decide +kernel
theorem i_L_law_1409 : decode (mb 299) 1409 = .ok (.iaload, 1) := by decide +kernel
theorem i_L_law_1410 : decode (mb 299) 1410 = .ok (.aload_n 0, 1) := by decide +kernel
theorem i_L_law_1411 : decode (mb 299) 1411 = .ok (.iload_n 3, 1) := by decide +kernel
theorem i_L_law_1412 : decode (mb 299) 1412 = .ok (.iconst 3, 1) := by decide +kernel
theorem i_L_law_1413 : decode (mb 299) 1413 = .ok (.iadd, 1) := by decide +kernel
theorem i_L_law_1414 : decode (mb 299) 1414 = .ok (.iaload, 1) := by decide +kernel
theorem i_L_law_1415 : decode (mb 299) 1415 = .ok (.invokevirtual 183, 3) := by decide +kernel
theorem i_L_law_1418 : decode (mb 299) 1418 = .ok (.if_icmp .eq 326, 3) := by decide +kernel
theorem i_L_law_1421 : decode (mb 299) 1421 = .ok (.iconst 0, 1) := by decide +kernel
theorem i_L_law_1422 : decode (mb 299) 1422 = .ok (.ireturn, 1) := by decide +kernel
theorem i_L_law_1423 : decode (mb 299) 1423 = .ok (.aload_n 1, 1) := by decide +kernel
theorem i_L_law_1424 : decode (mb 299) 1424 = .ok (.invokevirtual 184, 3) := by decide +kernel
theorem i_L_law_1427 : decode (mb 299) 1427 = .ok (.aload_n 2, 1) := by decide +kernel
theorem i_L_law_1428 : decode (mb 299) 1428 = .ok (.invokevirtual 187, 3) := by decide +kernel
theorem i_L_law_1431 : decode (mb 299) 1431 = .ok (.if_icmp .eq 313, 3) := by decide +kernel
theorem i_L_law_1434 : decode (mb 299) 1434 = .ok (.iconst 0, 1) := by decide +kernel
theorem i_L_law_1435 : decode (mb 299) 1435 = .ok (.ireturn, 1) := by decide +kernel
theorem i_L_law_1436 : decode (mb 299) 1436 = .ok (.aload_n 1, 1) := by decide +kernel
theorem i_L_law_1437 : decode (mb 299) 1437 = .ok (.aload_n 0, 1) := by decide +kernel
theorem i_L_law_1438 : decode (mb 299) 1438 = .ok (.iload_n 3, 1) := by decide +kernel
theorem i_L_law_1439 : decode (mb 299) 1439 = .ok (.iconst 1, 1) := by decide +kernel
theorem i_L_law_1440 : decode (mb 299) 1440 = .ok (.iadd, 1) := by decide +kernel
theorem i_L_law_1441 : decode (mb 299) 1441 = .ok (.iaload, 1) := by decide +kernel
theorem i_L_law_1442 : decode (mb 299) 1442 = .ok (.invokevirtual 188, 3) := by decide +kernel
theorem i_L_law_1445 : decode (mb 299) 1445 = .ok (.aload_n 2, 1) := by decide +kernel
theorem i_L_law_1446 : decode (mb 299) 1446 = .ok (.aload_n 0, 1) := by decide +kernel
theorem i_L_law_1447 : decode (mb 299) 1447 = .ok (.iload_n 3, 1) := by decide +kernel
theorem i_L_law_1448 : decode (mb 299) 1448 = .ok (.iconst 1, 1) := by decide +kernel
theorem i_L_law_1449 : decode (mb 299) 1449 = .ok (.iadd, 1) := by decide +kernel
theorem i_L_law_1450 : decode (mb 299) 1450 = .ok (.iaload, 1) := by decide +kernel
theorem i_L_law_1451 : decode (mb 299) 1451 = .ok (.invokevirtual 191, 3) := by decide +kernel
theorem i_L_law_1454 : decode (mb 299) 1454 = .ok (.if_icmp .eq 290, 3) := by decide +kernel
theorem i_L_law_1457 : decode (mb 299) 1457 = .ok (.iconst 0, 1) := by decide +kernel
theorem i_L_law_1458 : decode (mb 299) 1458 = .ok (.ireturn, 1) := by decide +kernel
theorem i_L_law_1459 : decode (mb 299) 1459 = .ok (.aload_n 1, 1) := by decide +kernel
theorem i_L_law_1460 : decode (mb 299) 1460 = .ok (.invokevirtual 192, 3) := by decide +kernel
theorem i_L_law_1463 : decode (mb 299) 1463 = .ok (.aload_n 2, 1) := by decide +kernel
theorem i_L_law_1464 : decode (mb 299) 1464 = .ok (.invokevirtual 195, 3) := by decide +kernel
theorem i_L_law_1467 : decode (mb 299) 1467 = .ok (.if_icmp .eq 277, 3) := by decide +kernel
theorem i_L_law_1470 : decode (mb 299) 1470 = .ok (.iconst 0, 1) := by decide +kernel
theorem i_L_law_1471 : decode (mb 299) 1471 = .ok (.ireturn, 1) := by decide +kernel
theorem i_L_law_1472 : decode (mb 299) 1472 = .ok (.aload_n 1, 1) := by decide +kernel
theorem i_L_law_1473 : decode (mb 299) 1473 = .ok (.invokevirtual 196, 3) := by decide +kernel
theorem i_L_law_1476 : decode (mb 299) 1476 = .ok (.aload_n 2, 1) := by decide +kernel
theorem i_L_law_1477 : decode (mb 299) 1477 = .ok (.invokevirtual 199, 3) := by decide +kernel
theorem i_L_law_1480 : decode (mb 299) 1480 = .ok (.if_icmp .eq 264, 3) := by decide +kernel
theorem i_L_law_1483 : decode (mb 299) 1483 = .ok (.iconst 0, 1) := by decide +kernel
theorem i_L_law_1484 : decode (mb 299) 1484 = .ok (.ireturn, 1) := by decide +kernel
theorem i_L_law_1485 : decode (mb 299) 1485 = .ok (.aload_n 1, 1) := by decide +kernel
theorem i_L_law_1486 : decode (mb 299) 1486 = .ok (.aload_n 0, 1) := by decide +kernel
theorem i_L_law_1487 : decode (mb 299) 1487 = .ok (.iload_n 3, 1) := by decide +kernel
theorem i_L_law_1488 : decode (mb 299) 1488 = .ok (.iconst 1, 1) := by decide +kernel
theorem i_L_law_1489 : decode (mb 299) 1489 = .ok (.iadd, 1) := by decide +kernel
theorem i_L_law_1490 : decode (mb 299) 1490 = .ok (.iaload, 1) := by decide +kernel
theorem i_L_law_1491 : decode (mb 299) 1491 = .ok (.aload_n 0, 1) := by decide +kernel
theorem i_L_law_1492 : decode (mb 299) 1492 = .ok (.iload_n 3, 1) := by decide +kernel
theorem i_L_law_1493 : decode (mb 299) 1493 = .ok (.iconst 2, 1) := by decide +kernel
theorem i_L_law_1494 : decode (mb 299) 1494 = .ok (.iadd, 1) := by decide +kernel
theorem i_L_law_1495 : decode (mb 299) 1495 = .ok (.iaload, 1) := by decide +kernel
theorem i_L_law_1496 : decode (mb 299) 1496 = .ok (.invokevirtual 200, 3) := by decide +kernel
theorem i_L_law_1499 : decode (mb 299) 1499 = .ok (.aload_n 2, 1) := by decide +kernel
theorem i_L_law_1500 : decode (mb 299) 1500 = .ok (.aload_n 0, 1) := by decide +kernel
theorem i_L_law_1501 : decode (mb 299) 1501 = .ok (.iload_n 3, 1) := by decide +kernel
theorem i_L_law_1502 : decode (mb 299) 1502 = .ok (.iconst 1, 1) := by decide +kernel
theorem i_L_law_1503 : decode (mb 299) 1503 = .ok (.iadd, 1) := by decide +kernel
theorem i_L_law_1504 : decode (mb 299) 1504 = .ok (.iaload, 1) := by decide +kernel
theorem i_L_law_1505 : decode (mb 299) 1505 = .ok (.aload_n 0, 1) := by decide +kernel
theorem i_L_law_1506 : decode (mb 299) 1506 = .ok (.iload_n 3, 1) := by decide +kernel
theorem i_L_law_1507 : decode (mb 299) 1507 = .ok (.iconst 2, 1) := by decide +kernel
theorem i_L_law_1508 : decode (mb 299) 1508 = .ok (.iadd, 1) := by decide +kernel
theorem i_L_law_1509 : decode (mb 299) 1509 = .ok (.iaload, 1) := by decide +kernel
theorem i_L_law_1510 : decode (mb 299) 1510 = .ok (.invokevirtual 203, 3) := by decide +kernel
theorem i_L_law_1513 : decode (mb 299) 1513 = .ok (.if_icmp .eq 231, 3) := by decide +kernel
theorem i_L_law_1516 : decode (mb 299) 1516 = .ok (.iconst 0, 1) := by decide +kernel
theorem i_L_law_1517 : decode (mb 299) 1517 = .ok (.ireturn, 1) := by decide +kernel
theorem i_L_law_1518 : decode (mb 299) 1518 = .ok (.aload_n 1, 1) := by decide +kernel
theorem i_L_law_1519 : decode (mb 299) 1519 = .ok (.invokevirtual 204, 3) := by decide +kernel
theorem i_L_law_1522 : decode (mb 299) 1522 = .ok (.aload_n 2, 1) := by decide +kernel
theorem i_L_law_1523 : decode (mb 299) 1523 = .ok (.invokevirtual 207, 3) := by decide +kernel
theorem i_L_law_1526 : decode (mb 299) 1526 = .ok (.if_icmp .eq 218, 3) := by decide +kernel
theorem i_L_law_1529 : decode (mb 299) 1529 = .ok (.iconst 0, 1) := by decide +kernel
theorem i_L_law_1530 : decode (mb 299) 1530 = .ok (.ireturn, 1) := by decide +kernel
theorem i_L_law_1531 : decode (mb 299) 1531 = .ok (.aload_n 1, 1) := by decide +kernel
theorem i_L_law_1532 : decode (mb 299) 1532 = .ok (.invokevirtual 208, 3) := by decide +kernel
theorem i_L_law_1535 : decode (mb 299) 1535 = .ok (.aload_n 2, 1) := by decide +kernel
theorem i_L_law_1536 : decode (mb 299) 1536 = .ok (.invokevirtual 211, 3) := by decide +kernel
theorem i_L_law_1539 : decode (mb 299) 1539 = .ok (.if_icmp .eq 205, 3) := by decide +kernel
theorem i_L_law_1542 : decode (mb 299) 1542 = .ok (.iconst 0, 1) := by decide +kernel
theorem i_L_law_1543 : decode (mb 299) 1543 = .ok (.ireturn, 1) := by decide +kernel
theorem i_L_law_1544 : decode (mb 299) 1544 = .ok (.aload_n 1, 1) := by decide +kernel
theorem i_L_law_1545 : decode (mb 299) 1545 = .ok (.aload_n 0, 1) := by decide +kernel
theorem i_L_law_1546 : decode (mb 299) 1546 = .ok (.iload_n 3, 1) := by decide +kernel
theorem i_L_law_1547 : decode (mb 299) 1547 = .ok (.iconst 1, 1) := by decide +kernel
theorem i_L_law_1548 : decode (mb 299) 1548 = .ok (.iadd, 1) := by decide +kernel
theorem i_L_law_1549 : decode (mb 299) 1549 = .ok (.iaload, 1) := by decide +kernel
theorem i_L_law_1550 : decode (mb 299) 1550 = .ok (.invokevirtual 212, 3) := by decide +kernel
theorem i_L_law_1553 : decode (mb 299) 1553 = .ok (.aload_n 2, 1) := by decide +kernel
theorem i_L_law_1554 : decode (mb 299) 1554 = .ok (.aload_n 0, 1) := by decide +kernel
theorem i_L_law_1555 : decode (mb 299) 1555 = .ok (.iload_n 3, 1) := by decide +kernel
theorem i_L_law_1556 : decode (mb 299) 1556 = .ok (.iconst 1, 1) := by decide +kernel
theorem i_L_law_1557 : decode (mb 299) 1557 = .ok (.iadd, 1) := by decide +kernel
theorem i_L_law_1558 : decode (mb 299) 1558 = .ok (.iaload, 1) := by decide +kernel
theorem i_L_law_1559 : decode (mb 299) 1559 = .ok (.invokevirtual 215, 3) := by decide +kernel
theorem i_L_law_1562 : decode (mb 299) 1562 = .ok (.if_icmp .eq 182, 3) := by decide +kernel
theorem i_L_law_1565 : decode (mb 299) 1565 = .ok (.iconst 0, 1) := by decide +kernel
theorem i_L_law_1566 : decode (mb 299) 1566 = .ok (.ireturn, 1) := by decide +kernel
theorem i_L_law_1567 : decode (mb 299) 1567 = .ok (.aload_n 1, 1) := by decide +kernel
theorem i_L_law_1568 : decode (mb 299) 1568 = .ok (.invokevirtual 216, 3) := by decide +kernel
theorem i_L_law_1571 : decode (mb 299) 1571 = .ok (.aload_n 2, 1) := by decide +kernel
theorem i_L_law_1572 : decode (mb 299) 1572 = .ok (.invokevirtual 219, 3) := by decide +kernel
theorem i_L_law_1575 : decode (mb 299) 1575 = .ok (.if_icmp .eq 169, 3) := by decide +kernel
theorem i_L_law_1578 : decode (mb 299) 1578 = .ok (.iconst 0, 1) := by decide +kernel
theorem i_L_law_1579 : decode (mb 299) 1579 = .ok (.ireturn, 1) := by decide +kernel
theorem i_L_law_1580 : decode (mb 299) 1580 = .ok (.aload_n 1, 1) := by decide +kernel
theorem i_L_law_1581 : decode (mb 299) 1581 = .ok (.aload_n 0, 1) := by decide +kernel
theorem i_L_law_1582 : decode (mb 299) 1582 = .ok (.iload_n 3, 1) := by decide +kernel
theorem i_L_law_1583 : decode (mb 299) 1583 = .ok (.iconst 1, 1) := by decide +kernel
theorem i_L_law_1584 : decode (mb 299) 1584 = .ok (.iadd, 1) := by decide +kernel
theorem i_L_law_1585 : decode (mb 299) 1585 = .ok (.iaload, 1) := by decide +kernel
theorem i_L_law_1586 : decode (mb 299) 1586 = .ok (.aload_n 0, 1) := by decide +kernel
theorem i_L_law_1587 : decode (mb 299) 1587 = .ok (.iload_n 3, 1) := by decide +kernel
theorem i_L_law_1588 : decode (mb 299) 1588 = .ok (.iconst 2, 1) := by decide +kernel
theorem i_L_law_1589 : decode (mb 299) 1589 = .ok (.iadd, 1) := by decide +kernel
theorem i_L_law_1590 : decode (mb 299) 1590 = .ok (.iaload, 1) := by decide +kernel
theorem i_L_law_1591 : decode (mb 299) 1591 = .ok (.invokevirtual 220, 3) := by decide +kernel
theorem i_L_law_1594 : decode (mb 299) 1594 = .ok (.aload_n 2, 1) := by decide +kernel
theorem i_L_law_1595 : decode (mb 299) 1595 = .ok (.aload_n 0, 1) := by decide +kernel
theorem i_L_law_1596 : decode (mb 299) 1596 = .ok (.iload_n 3, 1) := by decide +kernel
theorem i_L_law_1597 : decode (mb 299) 1597 = .ok (.iconst 1, 1) := by decide +kernel
theorem i_L_law_1598 : decode (mb 299) 1598 = .ok (.iadd, 1) := by decide +kernel
theorem i_L_law_1599 : decode (mb 299) 1599 = .ok (.iaload, 1) := by decide +kernel
theorem i_L_law_1600 : decode (mb 299) 1600 = .ok (.aload_n 0, 1) := by decide +kernel
theorem i_L_law_1601 : decode (mb 299) 1601 = .ok (.iload_n 3, 1) := by decide +kernel
theorem i_L_law_1602 : decode (mb 299) 1602 = .ok (.iconst 2, 1) := by decide +kernel
theorem i_L_law_1603 : decode (mb 299) 1603 = .ok (.iadd, 1) := by decide +kernel
theorem i_L_law_1604 : decode (mb 299) 1604 = .ok (.iaload, 1) := by decide +kernel
theorem i_L_law_1605 : decode (mb 299) 1605 = .ok (.invokevirtual 223, 3) := by decide +kernel
theorem i_L_law_1608 : decode (mb 299) 1608 = .ok (.if_icmp .eq 136, 3) := by decide +kernel
theorem i_L_law_1611 : decode (mb 299) 1611 = .ok (.iconst 0, 1) := by decide +kernel
theorem i_L_law_1612 : decode (mb 299) 1612 = .ok (.ireturn, 1) := by decide +kernel
theorem i_L_law_1613 : decode (mb 299) 1613 = .ok (.aload_n 1, 1) := by decide +kernel
theorem i_L_law_1614 : decode (mb 299) 1614 = .ok (.invokevirtual 224, 3) := by decide +kernel
theorem i_L_law_1617 : decode (mb 299) 1617 = .ok (.aload_n 2, 1) := by decide +kernel
theorem i_L_law_1618 : decode (mb 299) 1618 = .ok (.invokevirtual 227, 3) := by decide +kernel
theorem i_L_law_1621 : decode (mb 299) 1621 = .ok (.if_icmp .eq 123, 3) := by decide +kernel
theorem i_L_law_1624 : decode (mb 299) 1624 = .ok (.iconst 0, 1) := by decide +kernel
theorem i_L_law_1625 : decode (mb 299) 1625 = .ok (.ireturn, 1) := by decide +kernel
theorem i_L_law_1626 : decode (mb 299) 1626 = .ok (.aload_n 1, 1) := by decide +kernel
theorem i_L_law_1627 : decode (mb 299) 1627 = .ok (.aload_n 0, 1) := by decide +kernel
theorem i_L_law_1628 : decode (mb 299) 1628 = .ok (.iload_n 3, 1) := by decide +kernel
theorem i_L_law_1629 : decode (mb 299) 1629 = .ok (.iconst 1, 1) := by decide +kernel
theorem i_L_law_1630 : decode (mb 299) 1630 = .ok (.iadd, 1) := by decide +kernel
theorem i_L_law_1631 : decode (mb 299) 1631 = .ok (.iaload, 1) := by decide +kernel
theorem i_L_law_1632 : decode (mb 299) 1632 = .ok (.invokevirtual 228, 3) := by decide +kernel
theorem i_L_law_1635 : decode (mb 299) 1635 = .ok (.aload_n 2, 1) := by decide +kernel
theorem i_L_law_1636 : decode (mb 299) 1636 = .ok (.aload_n 0, 1) := by decide +kernel
theorem i_L_law_1637 : decode (mb 299) 1637 = .ok (.iload_n 3, 1) := by decide +kernel
theorem i_L_law_1638 : decode (mb 299) 1638 = .ok (.iconst 1, 1) := by decide +kernel
theorem i_L_law_1639 : decode (mb 299) 1639 = .ok (.iadd, 1) := by decide +kernel
theorem i_L_law_1640 : decode (mb 299) 1640 = .ok (.iaload, 1) := by decide +kernel
theorem i_L_law_1641 : decode (mb 299) 1641 = .ok (.invokevirtual 231, 3) := by decide +kernel
theorem i_L_law_1644 : decode (mb 299) 1644 = .ok (.if_icmp .eq 100, 3) := by decide +kernel
theorem i_L_law_1647 : decode (mb 299) 1647 = .ok (.iconst 0, 1) := by decide +kernel
theorem i_L_law_1648 : decode (mb 299) 1648 = .ok (.ireturn, 1) := by decide +kernel
theorem i_L_law_1649 : decode (mb 299) 1649 = .ok (.aload_n 1, 1) := by decide +kernel
theorem i_L_law_1650 : decode (mb 299) 1650 = .ok (.aload_n 0, 1) := by decide +kernel
theorem i_L_law_1651 : decode (mb 299) 1651 = .ok (.iload_n 3, 1) := by decide +kernel
theorem i_L_law_1652 : decode (mb 299) 1652 = .ok (.iconst 1, 1) := by decide +kernel
theorem i_L_law_1653 : decode (mb 299) 1653 = .ok (.iadd, 1) := by decide +kernel
theorem i_L_law_1654 : decode (mb 299) 1654 = .ok (.iaload, 1) := by decide +kernel
theorem i_L_law_1655 : decode (mb 299) 1655 = .ok (.invokevirtual 232, 3) := by decide +kernel
theorem i_L_law_1658 : decode (mb 299) 1658 = .ok (.aload_n 2, 1) := by decide +kernel
theorem i_L_law_1659 : decode (mb 299) 1659 = .ok (.aload_n 0, 1) := by decide +kernel
theorem i_L_law_1660 : decode (mb 299) 1660 = .ok (.iload_n 3, 1) := by decide +kernel
theorem i_L_law_1661 : decode (mb 299) 1661 = .ok (.iconst 1, 1) := by decide +kernel
theorem i_L_law_1662 : decode (mb 299) 1662 = .ok (.iadd, 1) := by decide +kernel
theorem i_L_law_1663 : decode (mb 299) 1663 = .ok (.iaload, 1) := by decide +kernel
theorem i_L_law_1664 : decode (mb 299) 1664 = .ok (.invokevirtual 235, 3) := by decide +kernel
theorem i_L_law_1667 : decode (mb 299) 1667 = .ok (.if_icmp .eq 77, 3) := by decide +kernel
theorem i_L_law_1670 : decode (mb 299) 1670 = .ok (.iconst 0, 1) := by decide +kernel
theorem i_L_law_1671 : decode (mb 299) 1671 = .ok (.ireturn, 1) := by decide +kernel
theorem i_L_law_1672 : decode (mb 299) 1672 = .ok (.aload_n 1, 1) := by decide +kernel
theorem i_L_law_1673 : decode (mb 299) 1673 = .ok (.aload_n 0, 1) := by decide +kernel
theorem i_L_law_1674 : decode (mb 299) 1674 = .ok (.iload_n 3, 1) := by decide +kernel
theorem i_L_law_1675 : decode (mb 299) 1675 = .ok (.iconst 1, 1) := by decide +kernel
theorem i_L_law_1676 : decode (mb 299) 1676 = .ok (.iadd, 1) := by decide +kernel
theorem i_L_law_1677 : decode (mb 299) 1677 = .ok (.iaload, 1) := by decide +kernel
theorem i_L_law_1678 : decode (mb 299) 1678 = .ok (.invokevirtual 236, 3) := by decide +kernel
theorem i_L_law_1681 : decode (mb 299) 1681 = .ok (.aload_n 2, 1) := by decide +kernel
theorem i_L_law_1682 : decode (mb 299) 1682 = .ok (.aload_n 0, 1) := by decide +kernel
theorem i_L_law_1683 : decode (mb 299) 1683 = .ok (.iload_n 3, 1) := by decide +kernel
theorem i_L_law_1684 : decode (mb 299) 1684 = .ok (.iconst 1, 1) := by decide +kernel
theorem i_L_law_1685 : decode (mb 299) 1685 = .ok (.iadd, 1) := by decide +kernel
theorem i_L_law_1686 : decode (mb 299) 1686 = .ok (.iaload, 1) := by decide +kernel
theorem i_L_law_1687 : decode (mb 299) 1687 = .ok (.invokevirtual 239, 3) := by decide +kernel
theorem i_L_law_1690 : decode (mb 299) 1690 = .ok (.if_icmp .eq 54, 3) := by decide +kernel
theorem i_L_law_1693 : decode (mb 299) 1693 = .ok (.iconst 0, 1) := by decide +kernel
theorem i_L_law_1694 : decode (mb 299) 1694 = .ok (.ireturn, 1) := by decide +kernel
theorem i_L_law_1695 : decode (mb 299) 1695 = .ok (.aload_n 1, 1) := by decide +kernel
theorem i_L_law_1696 : decode (mb 299) 1696 = .ok (.invokevirtual 240, 3) := by decide +kernel
theorem i_L_law_1699 : decode (mb 299) 1699 = .ok (.aload_n 2, 1) := by decide +kernel
theorem i_L_law_1700 : decode (mb 299) 1700 = .ok (.invokevirtual 243, 3) := by decide +kernel
theorem i_L_law_1703 : decode (mb 299) 1703 = .ok (.if_icmp .eq 41, 3) := by decide +kernel
theorem i_L_law_1706 : decode (mb 299) 1706 = .ok (.iconst 0, 1) := by decide +kernel
theorem i_L_law_1707 : decode (mb 299) 1707 = .ok (.ireturn, 1) := by decide +kernel
theorem i_L_law_1708 : decode (mb 299) 1708 = .ok (.aload_n 1, 1) := by decide +kernel
theorem i_L_law_1709 : decode (mb 299) 1709 = .ok (.invokevirtual 244, 3) := by decide +kernel
theorem i_L_law_1712 : decode (mb 299) 1712 = .ok (.aload_n 2, 1) := by decide +kernel
theorem i_L_law_1713 : decode (mb 299) 1713 = .ok (.invokevirtual 247, 3) := by decide +kernel
theorem i_L_law_1716 : decode (mb 299) 1716 = .ok (.if_icmp .eq 28, 3) := by decide +kernel
theorem i_L_law_1719 : decode (mb 299) 1719 = .ok (.iconst 0, 1) := by decide +kernel
theorem i_L_law_1720 : decode (mb 299) 1720 = .ok (.ireturn, 1) := by decide +kernel
theorem i_L_law_1721 : decode (mb 299) 1721 = .ok (.aload_n 1, 1) := by decide +kernel
theorem i_L_law_1722 : decode (mb 299) 1722 = .ok (.aload_n 0, 1) := by decide +kernel
theorem i_L_law_1723 : decode (mb 299) 1723 = .ok (.iload_n 3, 1) := by decide +kernel
theorem i_L_law_1724 : decode (mb 299) 1724 = .ok (.iconst 1, 1) := by decide +kernel
theorem i_L_law_1725 : decode (mb 299) 1725 = .ok (.iadd, 1) := by decide +kernel
theorem i_L_law_1726 : decode (mb 299) 1726 = .ok (.iaload, 1) := by decide +kernel
theorem i_L_law_1727 : decode (mb 299) 1727 = .ok (.invokevirtual 248, 3) := by decide +kernel
theorem i_L_law_1730 : decode (mb 299) 1730 = .ok (.aload_n 2, 1) := by decide +kernel
theorem i_L_law_1731 : decode (mb 299) 1731 = .ok (.aload_n 0, 1) := by decide +kernel
theorem i_L_law_1732 : decode (mb 299) 1732 = .ok (.iload_n 3, 1) := by decide +kernel
theorem i_L_law_1733 : decode (mb 299) 1733 = .ok (.iconst 1, 1) := by decide +kernel
theorem i_L_law_1734 : decode (mb 299) 1734 = .ok (.iadd, 1) := by decide +kernel
theorem i_L_law_1735 : decode (mb 299) 1735 = .ok (.iaload, 1) := by decide +kernel
theorem i_L_law_1736 : decode (mb 299) 1736 = .ok (.invokevirtual 251, 3) := by decide +kernel
theorem i_L_law_1739 : decode (mb 299) 1739 = .ok (.if_icmp .eq 5, 3) := by decide +kernel
theorem i_L_law_1742 : decode (mb 299) 1742 = .ok (.iconst 0, 1) := by decide +kernel
theorem i_L_law_1743 : decode (mb 299) 1743 = .ok (.ireturn, 1) := by decide +kernel
theorem i_L_law_1744 : decode (mb 299) 1744 = .ok (.iinc 3 6, 3) := by decide +kernel
theorem i_L_law_1747 : decode (mb 299) 1747 = .ok (.goto (-1729), 3) := by decide +kernel
theorem i_L_law_1750 : decode (mb 299) 1750 = .ok (.iconst 1, 1) := by decide +kernel
theorem i_L_law_1751 : decode (mb 299) 1751 = .ok (.ireturn, 1) := by decide +kernel
