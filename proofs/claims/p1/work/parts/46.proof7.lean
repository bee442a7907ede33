/-! printed: the decode rows, and each step by its row -/
abbrev xMuL (nm : String) : xM := ("BreadMapLaw", code, 4, ret, nm, room_1)
theorem dL_law_0 : decode cL_law 0 = .ok (.new 7, 3) := by decide +kernel
theorem dL_law_3 : decode cL_law 3 = .ok (.dup, 1) := by decide +kernel
theorem dL_law_4 : decode cL_law 4 = .ok (.invokespecial 9, 3) := by decide +kernel
theorem dL_law_7 : decode cL_law 7 = .ok (.astore_n 1, 1) := by decide +kernel
theorem dL_law_8 : decode cL_law 8 = .ok (.new 10, 3) := by decide +kernel
theorem dL_law_11 : decode cL_law 11 = .ok (.dup, 1) := by decide +kernel
theorem dL_law_12 : decode cL_law 12 = .ok (.invokespecial 12, 3) := by decide +kernel
theorem dL_law_15 : decode cL_law 15 = .ok (.astore_n 2, 1) := by decide +kernel
theorem dL_law_16 : decode cL_law 16 = .ok (.iconst 0, 1) := by decide +kernel
theorem dL_law_17 : decode cL_law 17 = .ok (.istore_n 3, 1) := by decide +kernel
theorem dL_law_18 : decode cL_law 18 = .ok (.iload_n 3, 1) := by decide +kernel
theorem dL_law_19 : decode cL_law 19 = .ok (.aload_n 0, 1) := by decide +kernel
theorem dL_law_20 : decode cL_law 20 = .ok (.arraylength, 1) := by decide +kernel
theorem dL_law_21 : decode cL_law 21 = .ok (.bipush 6, 2) := by decide +kernel
theorem dL_law_23 : decode cL_law 23 = .ok (.isub, 1) := by decide +kernel
theorem dL_law_24 : decode cL_law 24 = .ok (.if_icmp .gt 1736, 3) := by decide +kernel
theorem dL_law_27 : decode cL_law 27 = .ok (.aload_n 0, 1) := by decide +kernel
theorem dL_law_28 : decode cL_law 28 = .ok (.iload_n 3, 1) := by decide +kernel
theorem dL_law_29 : decode cL_law 29 = .ok (.iaload, 1) := by decide +kernel
theorem dL_law_30 : decode cL_law 30 = .ok (.bipush 63, 2) := by decide +kernel
theorem dL_law_32 : decode cL_law 32 = .ok (.iand, 1) := by decide +kernel
theorem dL_law_33 : decode cL_law 33 = .ok (.tableswitch 1721 0 45 #[199, 212, 226, 240, 283, 356, 390, 453, 516, 539, 562, 585, 608, 651, 694, 737, 770, 813, 856, 899, 942, 975, 1008, 1041, 1064, 1087, 1120, 1143, 1156, 1179, 1202, 1235, 1248, 1281, 1324, 1347, 1390, 1423, 1457, 1500, 1563, 1606, 1629, 1652, 1695, 1708], 199) := by decide +kernel
theorem dL_law_232 : decode cL_law 232 = .ok (.aload_n 1, 1) := by decide +kernel
theorem dL_law_233 : decode cL_law 233 = .ok (.invokevirtual 13, 3) := by decide +kernel
theorem dL_law_236 : decode cL_law 236 = .ok (.aload_n 2, 1) := by decide +kernel
theorem dL_law_237 : decode cL_law 237 = .ok (.invokevirtual 17, 3) := by decide +kernel
theorem dL_law_240 : decode cL_law 240 = .ok (.if_icmp .eq 1514, 3) := by decide +kernel
theorem dL_law_245 : decode cL_law 245 = .ok (.aload_n 1, 1) := by decide +kernel
theorem dL_law_246 : decode cL_law 246 = .ok (.invokevirtual 18, 3) := by decide +kernel
theorem dL_law_249 : decode cL_law 249 = .ok (.aload_n 2, 1) := by decide +kernel
theorem dL_law_250 : decode cL_law 250 = .ok (.invokevirtual 22, 3) := by decide +kernel
theorem dL_law_253 : decode cL_law 253 = .ok (.lcmp, 1) := by decide +kernel
theorem dL_law_254 : decode cL_law 254 = .ok (.ifCond .eq 1500, 3) := by decide +kernel
theorem dL_law_259 : decode cL_law 259 = .ok (.aload_n 1, 1) := by decide +kernel
theorem dL_law_260 : decode cL_law 260 = .ok (.invokevirtual 23, 3) := by decide +kernel
theorem dL_law_263 : decode cL_law 263 = .ok (.aload_n 2, 1) := by decide +kernel
theorem dL_law_264 : decode cL_law 264 = .ok (.invokevirtual 26, 3) := by decide +kernel
theorem dL_law_267 : decode cL_law 267 = .ok (.lcmp, 1) := by decide +kernel
theorem dL_law_268 : decode cL_law 268 = .ok (.ifCond .eq 1486, 3) := by decide +kernel
theorem dL_law_273 : decode cL_law 273 = .ok (.aload_n 1, 1) := by decide +kernel
theorem dL_law_274 : decode cL_law 274 = .ok (.aload_n 0, 1) := by decide +kernel
theorem dL_law_275 : decode cL_law 275 = .ok (.iload_n 3, 1) := by decide +kernel
theorem dL_law_276 : decode cL_law 276 = .ok (.iconst 1, 1) := by decide +kernel
theorem dL_law_277 : decode cL_law 277 = .ok (.iadd, 1) := by decide +kernel
theorem dL_law_278 : decode cL_law 278 = .ok (.iaload, 1) := by decide +kernel
theorem dL_law_279 : decode cL_law 279 = .ok (.aload_n 0, 1) := by decide +kernel
theorem dL_law_280 : decode cL_law 280 = .ok (.iload_n 3, 1) := by decide +kernel
theorem dL_law_281 : decode cL_law 281 = .ok (.iconst 2, 1) := by decide +kernel
theorem dL_law_282 : decode cL_law 282 = .ok (.iadd, 1) := by decide +kernel
theorem dL_law_283 : decode cL_law 283 = .ok (.iaload, 1) := by decide +kernel
theorem dL_law_284 : decode cL_law 284 = .ok (.aload_n 0, 1) := by decide +kernel
theorem dL_law_285 : decode cL_law 285 = .ok (.iload_n 3, 1) := by decide +kernel
theorem dL_law_286 : decode cL_law 286 = .ok (.iconst 3, 1) := by decide +kernel
theorem dL_law_287 : decode cL_law 287 = .ok (.iadd, 1) := by decide +kernel
theorem dL_law_288 : decode cL_law 288 = .ok (.iaload, 1) := by decide +kernel
theorem dL_law_289 : decode cL_law 289 = .ok (.invokevirtual 27, 3) := by decide +kernel
theorem dL_law_292 : decode cL_law 292 = .ok (.aload_n 2, 1) := by decide +kernel
theorem dL_law_293 : decode cL_law 293 = .ok (.aload_n 0, 1) := by decide +kernel
theorem dL_law_294 : decode cL_law 294 = .ok (.iload_n 3, 1) := by decide +kernel
theorem dL_law_295 : decode cL_law 295 = .ok (.iconst 1, 1) := by decide +kernel
theorem dL_law_296 : decode cL_law 296 = .ok (.iadd, 1) := by decide +kernel
theorem dL_law_297 : decode cL_law 297 = .ok (.iaload, 1) := by decide +kernel
theorem dL_law_298 : decode cL_law 298 = .ok (.aload_n 0, 1) := by decide +kernel
theorem dL_law_299 : decode cL_law 299 = .ok (.iload_n 3, 1) := by decide +kernel
theorem dL_law_300 : decode cL_law 300 = .ok (.iconst 2, 1) := by decide +kernel
theorem dL_law_301 : decode cL_law 301 = .ok (.iadd, 1) := by decide +kernel
theorem dL_law_302 : decode cL_law 302 = .ok (.iaload, 1) := by decide +kernel
theorem dL_law_303 : decode cL_law 303 = .ok (.aload_n 0, 1) := by decide +kernel
theorem dL_law_304 : decode cL_law 304 = .ok (.iload_n 3, 1) := by decide +kernel
theorem dL_law_305 : decode cL_law 305 = .ok (.iconst 3, 1) := by decide +kernel
theorem dL_law_306 : decode cL_law 306 = .ok (.iadd, 1) := by decide +kernel
theorem dL_law_307 : decode cL_law 307 = .ok (.iaload, 1) := by decide +kernel
theorem dL_law_308 : decode cL_law 308 = .ok (.invokevirtual 31, 3) := by decide +kernel
theorem dL_law_311 : decode cL_law 311 = .ok (.if_icmp .eq 1443, 3) := by decide +kernel
theorem dL_law_316 : decode cL_law 316 = .ok (.aload_n 1, 1) := by decide +kernel
theorem dL_law_317 : decode cL_law 317 = .ok (.aload_n 0, 1) := by decide +kernel
theorem dL_law_318 : decode cL_law 318 = .ok (.iload_n 3, 1) := by decide +kernel
theorem dL_law_319 : decode cL_law 319 = .ok (.iconst 1, 1) := by decide +kernel
theorem dL_law_320 : decode cL_law 320 = .ok (.iadd, 1) := by decide +kernel
theorem dL_law_321 : decode cL_law 321 = .ok (.iaload, 1) := by decide +kernel
theorem dL_law_322 : decode cL_law 322 = .ok (.aload_n 0, 1) := by decide +kernel
theorem dL_law_323 : decode cL_law 323 = .ok (.iload_n 3, 1) := by decide +kernel
theorem dL_law_324 : decode cL_law 324 = .ok (.iconst 2, 1) := by decide +kernel
theorem dL_law_325 : decode cL_law 325 = .ok (.iadd, 1) := by decide +kernel
theorem dL_law_326 : decode cL_law 326 = .ok (.iaload, 1) := by decide +kernel
theorem dL_law_327 : decode cL_law 327 = .ok (.aload_n 0, 1) := by decide +kernel
theorem dL_law_328 : decode cL_law 328 = .ok (.iload_n 3, 1) := by decide +kernel
theorem dL_law_329 : decode cL_law 329 = .ok (.iconst 3, 1) := by decide +kernel
theorem dL_law_330 : decode cL_law 330 = .ok (.iadd, 1) := by decide +kernel
theorem dL_law_331 : decode cL_law 331 = .ok (.iaload, 1) := by decide +kernel
theorem dL_law_332 : decode cL_law 332 = .ok (.i2l, 1) := by decide +kernel
theorem dL_law_333 : decode cL_law 333 = .ok (.bipush 32, 2) := by decide +kernel
theorem dL_law_335 : decode cL_law 335 = .ok (.lshl, 1) := by decide +kernel
theorem dL_law_336 : decode cL_law 336 = .ok (.aload_n 0, 1) := by decide +kernel
theorem dL_law_337 : decode cL_law 337 = .ok (.iload_n 3, 1) := by decide +kernel
theorem dL_law_338 : decode cL_law 338 = .ok (.iconst 4, 1) := by decide +kernel
theorem dL_law_339 : decode cL_law 339 = .ok (.iadd, 1) := by decide +kernel
theorem dL_law_340 : decode cL_law 340 = .ok (.iaload, 1) := by decide +kernel
theorem dL_law_341 : decode cL_law 341 = .ok (.i2l, 1) := by decide +kernel
theorem dL_law_342 : decode cL_law 342 = .ok (.ldc2_w 32, 3) := by decide +kernel
theorem dL_law_345 : decode cL_law 345 = .ok (.land, 1) := by decide +kernel
theorem dL_law_346 : decode cL_law 346 = .ok (.lor, 1) := by decide +kernel
theorem dL_law_347 : decode cL_law 347 = .ok (.invokevirtual 34, 3) := by decide +kernel
theorem dL_law_350 : decode cL_law 350 = .ok (.aload_n 2, 1) := by decide +kernel
theorem dL_law_351 : decode cL_law 351 = .ok (.aload_n 0, 1) := by decide +kernel
theorem dL_law_352 : decode cL_law 352 = .ok (.iload_n 3, 1) := by decide +kernel
theorem dL_law_353 : decode cL_law 353 = .ok (.iconst 1, 1) := by decide +kernel
theorem dL_law_354 : decode cL_law 354 = .ok (.iadd, 1) := by decide +kernel
theorem dL_law_355 : decode cL_law 355 = .ok (.iaload, 1) := by decide +kernel
theorem dL_law_356 : decode cL_law 356 = .ok (.aload_n 0, 1) := by decide +kernel
theorem dL_law_357 : decode cL_law 357 = .ok (.iload_n 3, 1) := by decide +kernel
theorem dL_law_358 : decode cL_law 358 = .ok (.iconst 2, 1) := by decide +kernel
theorem dL_law_359 : decode cL_law 359 = .ok (.iadd, 1) := by decide +kernel
theorem dL_law_360 : decode cL_law 360 = .ok (.iaload, 1) := by decide +kernel
theorem dL_law_361 : decode cL_law 361 = .ok (.aload_n 0, 1) := by decide +kernel
theorem dL_law_362 : decode cL_law 362 = .ok (.iload_n 3, 1) := by decide +kernel
theorem dL_law_363 : decode cL_law 363 = .ok (.iconst 3, 1) := by decide +kernel
theorem dL_law_364 : decode cL_law 364 = .ok (.iadd, 1) := by decide +kernel
theorem dL_law_365 : decode cL_law 365 = .ok (.iaload, 1) := by decide +kernel
theorem dL_law_366 : decode cL_law 366 = .ok (.i2l, 1) := by decide +kernel
theorem dL_law_367 : decode cL_law 367 = .ok (.bipush 32, 2) := by decide +kernel
theorem dL_law_369 : decode cL_law 369 = .ok (.lshl, 1) := by decide +kernel
theorem dL_law_370 : decode cL_law 370 = .ok (.aload_n 0, 1) := by decide +kernel
theorem dL_law_371 : decode cL_law 371 = .ok (.iload_n 3, 1) := by decide +kernel
theorem dL_law_372 : decode cL_law 372 = .ok (.iconst 4, 1) := by decide +kernel
theorem dL_law_373 : decode cL_law 373 = .ok (.iadd, 1) := by decide +kernel
theorem dL_law_374 : decode cL_law 374 = .ok (.iaload, 1) := by decide +kernel
theorem dL_law_375 : decode cL_law 375 = .ok (.i2l, 1) := by decide +kernel
theorem dL_law_376 : decode cL_law 376 = .ok (.ldc2_w 32, 3) := by decide +kernel
theorem dL_law_379 : decode cL_law 379 = .ok (.land, 1) := by decide +kernel
theorem dL_law_380 : decode cL_law 380 = .ok (.lor, 1) := by decide +kernel
theorem dL_law_381 : decode cL_law 381 = .ok (.invokevirtual 38, 3) := by decide +kernel
theorem dL_law_384 : decode cL_law 384 = .ok (.if_icmp .eq 1370, 3) := by decide +kernel
theorem dL_law_389 : decode cL_law 389 = .ok (.aload_n 1, 1) := by decide +kernel
theorem dL_law_390 : decode cL_law 390 = .ok (.aload_n 0, 1) := by decide +kernel
theorem dL_law_391 : decode cL_law 391 = .ok (.iload_n 3, 1) := by decide +kernel
theorem dL_law_392 : decode cL_law 392 = .ok (.iconst 1, 1) := by decide +kernel
theorem dL_law_393 : decode cL_law 393 = .ok (.iadd, 1) := by decide +kernel
theorem dL_law_394 : decode cL_law 394 = .ok (.iaload, 1) := by decide +kernel
theorem dL_law_395 : decode cL_law 395 = .ok (.aload_n 0, 1) := by decide +kernel
theorem dL_law_396 : decode cL_law 396 = .ok (.iload_n 3, 1) := by decide +kernel
theorem dL_law_397 : decode cL_law 397 = .ok (.iconst 2, 1) := by decide +kernel
theorem dL_law_398 : decode cL_law 398 = .ok (.iadd, 1) := by decide +kernel
theorem dL_law_399 : decode cL_law 399 = .ok (.iaload, 1) := by decide +kernel
theorem dL_law_400 : decode cL_law 400 = .ok (.invokevirtual 39, 3) := by decide +kernel
theorem dL_law_403 : decode cL_law 403 = .ok (.aload_n 2, 1) := by decide +kernel
theorem dL_law_404 : decode cL_law 404 = .ok (.aload_n 0, 1) := by decide +kernel
theorem dL_law_405 : decode cL_law 405 = .ok (.iload_n 3, 1) := by decide +kernel
theorem dL_law_406 : decode cL_law 406 = .ok (.iconst 1, 1) := by decide +kernel
theorem dL_law_407 : decode cL_law 407 = .ok (.iadd, 1) := by decide +kernel
theorem dL_law_408 : decode cL_law 408 = .ok (.iaload, 1) := by decide +kernel
theorem dL_law_409 : decode cL_law 409 = .ok (.aload_n 0, 1) := by decide +kernel
theorem dL_law_410 : decode cL_law 410 = .ok (.iload_n 3, 1) := by decide +kernel
theorem dL_law_411 : decode cL_law 411 = .ok (.iconst 2, 1) := by decide +kernel
theorem dL_law_412 : decode cL_law 412 = .ok (.iadd, 1) := by decide +kernel
theorem dL_law_413 : decode cL_law 413 = .ok (.iaload, 1) := by decide +kernel
theorem dL_law_414 : decode cL_law 414 = .ok (.invokevirtual 43, 3) := by decide +kernel
theorem dL_law_417 : decode cL_law 417 = .ok (.lcmp, 1) := by decide +kernel
theorem dL_law_418 : decode cL_law 418 = .ok (.ifCond .eq 1336, 3) := by decide +kernel
theorem dL_law_423 : decode cL_law 423 = .ok (.aload_n 1, 1) := by decide +kernel
theorem dL_law_424 : decode cL_law 424 = .ok (.aload_n 0, 1) := by decide +kernel
theorem dL_law_425 : decode cL_law 425 = .ok (.iload_n 3, 1) := by decide +kernel
theorem dL_law_426 : decode cL_law 426 = .ok (.iconst 1, 1) := by decide +kernel
theorem dL_law_427 : decode cL_law 427 = .ok (.iadd, 1) := by decide +kernel
theorem dL_law_428 : decode cL_law 428 = .ok (.iaload, 1) := by decide +kernel
theorem dL_law_429 : decode cL_law 429 = .ok (.aload_n 0, 1) := by decide +kernel
theorem dL_law_430 : decode cL_law 430 = .ok (.iload_n 3, 1) := by decide +kernel
theorem dL_law_431 : decode cL_law 431 = .ok (.iconst 2, 1) := by decide +kernel
theorem dL_law_432 : decode cL_law 432 = .ok (.iadd, 1) := by decide +kernel
theorem dL_law_433 : decode cL_law 433 = .ok (.iaload, 1) := by decide +kernel
theorem dL_law_434 : decode cL_law 434 = .ok (.aload_n 0, 1) := by decide +kernel
theorem dL_law_435 : decode cL_law 435 = .ok (.iload_n 3, 1) := by decide +kernel
theorem dL_law_436 : decode cL_law 436 = .ok (.iconst 3, 1) := by decide +kernel
theorem dL_law_437 : decode cL_law 437 = .ok (.iadd, 1) := by decide +kernel
theorem dL_law_438 : decode cL_law 438 = .ok (.iaload, 1) := by decide +kernel
theorem dL_law_439 : decode cL_law 439 = .ok (.aload_n 0, 1) := by decide +kernel
theorem dL_law_440 : decode cL_law 440 = .ok (.iload_n 3, 1) := by decide +kernel
theorem dL_law_441 : decode cL_law 441 = .ok (.iconst 4, 1) := by decide +kernel
theorem dL_law_442 : decode cL_law 442 = .ok (.iadd, 1) := by decide +kernel
theorem dL_law_443 : decode cL_law 443 = .ok (.iaload, 1) := by decide +kernel
theorem dL_law_444 : decode cL_law 444 = .ok (.aload_n 0, 1) := by decide +kernel
theorem dL_law_445 : decode cL_law 445 = .ok (.iload_n 3, 1) := by decide +kernel
theorem dL_law_446 : decode cL_law 446 = .ok (.iconst 5, 1) := by decide +kernel
theorem dL_law_447 : decode cL_law 447 = .ok (.iadd, 1) := by decide +kernel
theorem dL_law_448 : decode cL_law 448 = .ok (.iaload, 1) := by decide +kernel
theorem dL_law_449 : decode cL_law 449 = .ok (.invokevirtual 44, 3) := by decide +kernel
theorem dL_law_452 : decode cL_law 452 = .ok (.aload_n 2, 1) := by decide +kernel
theorem dL_law_453 : decode cL_law 453 = .ok (.aload_n 0, 1) := by decide +kernel
theorem dL_law_454 : decode cL_law 454 = .ok (.iload_n 3, 1) := by decide +kernel
theorem dL_law_455 : decode cL_law 455 = .ok (.iconst 1, 1) := by decide +kernel
theorem dL_law_456 : decode cL_law 456 = .ok (.iadd, 1) := by decide +kernel
theorem dL_law_457 : decode cL_law 457 = .ok (.iaload, 1) := by decide +kernel
theorem dL_law_458 : decode cL_law 458 = .ok (.aload_n 0, 1) := by decide +kernel
theorem dL_law_459 : decode cL_law 459 = .ok (.iload_n 3, 1) := by decide +kernel
theorem dL_law_460 : decode cL_law 460 = .ok (.iconst 2, 1) := by decide +kernel
theorem dL_law_461 : decode cL_law 461 = .ok (.iadd, 1) := by decide +kernel
theorem dL_law_462 : decode cL_law 462 = .ok (.iaload, 1) := by decide +kernel
theorem dL_law_463 : decode cL_law 463 = .ok (.aload_n 0, 1) := by decide +kernel
theorem dL_law_464 : decode cL_law 464 = .ok (.iload_n 3, 1) := by decide +kernel
theorem dL_law_465 : decode cL_law 465 = .ok (.iconst 3, 1) := by decide +kernel
theorem dL_law_466 : decode cL_law 466 = .ok (.iadd, 1) := by decide +kernel
theorem dL_law_467 : decode cL_law 467 = .ok (.iaload, 1) := by decide +kernel
theorem dL_law_468 : decode cL_law 468 = .ok (.aload_n 0, 1) := by decide +kernel
theorem dL_law_469 : decode cL_law 469 = .ok (.iload_n 3, 1) := by decide +kernel
theorem dL_law_470 : decode cL_law 470 = .ok (.iconst 4, 1) := by decide +kernel
theorem dL_law_471 : decode cL_law 471 = .ok (.iadd, 1) := by decide +kernel
theorem dL_law_472 : decode cL_law 472 = .ok (.iaload, 1) := by decide +kernel
theorem dL_law_473 : decode cL_law 473 = .ok (.aload_n 0, 1) := by decide +kernel
theorem dL_law_474 : decode cL_law 474 = .ok (.iload_n 3, 1) := by decide +kernel
theorem dL_law_475 : decode cL_law 475 = .ok (.iconst 5, 1) := by decide +kernel
theorem dL_law_476 : decode cL_law 476 = .ok (.iadd, 1) := by decide +kernel
theorem dL_law_477 : decode cL_law 477 = .ok (.iaload, 1) := by decide +kernel
theorem dL_law_478 : decode cL_law 478 = .ok (.invokevirtual 48, 3) := by decide +kernel
theorem dL_law_481 : decode cL_law 481 = .ok (.if_icmp .eq 1273, 3) := by decide +kernel
theorem dL_law_486 : decode cL_law 486 = .ok (.aload_n 1, 1) := by decide +kernel
theorem dL_law_487 : decode cL_law 487 = .ok (.aload_n 0, 1) := by decide +kernel
theorem dL_law_488 : decode cL_law 488 = .ok (.iload_n 3, 1) := by decide +kernel
theorem dL_law_489 : decode cL_law 489 = .ok (.iconst 1, 1) := by decide +kernel
theorem dL_law_490 : decode cL_law 490 = .ok (.iadd, 1) := by decide +kernel
theorem dL_law_491 : decode cL_law 491 = .ok (.iaload, 1) := by decide +kernel
theorem dL_law_492 : decode cL_law 492 = .ok (.aload_n 0, 1) := by decide +kernel
theorem dL_law_493 : decode cL_law 493 = .ok (.iload_n 3, 1) := by decide +kernel
theorem dL_law_494 : decode cL_law 494 = .ok (.iconst 2, 1) := by decide +kernel
theorem dL_law_495 : decode cL_law 495 = .ok (.iadd, 1) := by decide +kernel
theorem dL_law_496 : decode cL_law 496 = .ok (.iaload, 1) := by decide +kernel
theorem dL_law_497 : decode cL_law 497 = .ok (.aload_n 0, 1) := by decide +kernel
theorem dL_law_498 : decode cL_law 498 = .ok (.iload_n 3, 1) := by decide +kernel
theorem dL_law_499 : decode cL_law 499 = .ok (.iconst 3, 1) := by decide +kernel
theorem dL_law_500 : decode cL_law 500 = .ok (.iadd, 1) := by decide +kernel
theorem dL_law_501 : decode cL_law 501 = .ok (.iaload, 1) := by decide +kernel
theorem dL_law_502 : decode cL_law 502 = .ok (.aload_n 0, 1) := by decide +kernel
theorem dL_law_503 : decode cL_law 503 = .ok (.iload_n 3, 1) := by decide +kernel
theorem dL_law_504 : decode cL_law 504 = .ok (.iconst 4, 1) := by decide +kernel
theorem dL_law_505 : decode cL_law 505 = .ok (.iadd, 1) := by decide +kernel
theorem dL_law_506 : decode cL_law 506 = .ok (.iaload, 1) := by decide +kernel
theorem dL_law_507 : decode cL_law 507 = .ok (.aload_n 0, 1) := by decide +kernel
theorem dL_law_508 : decode cL_law 508 = .ok (.iload_n 3, 1) := by decide +kernel
theorem dL_law_509 : decode cL_law 509 = .ok (.iconst 5, 1) := by decide +kernel
theorem dL_law_510 : decode cL_law 510 = .ok (.iadd, 1) := by decide +kernel
theorem dL_law_511 : decode cL_law 511 = .ok (.iaload, 1) := by decide +kernel
theorem dL_law_512 : decode cL_law 512 = .ok (.invokevirtual 49, 3) := by decide +kernel
theorem dL_law_515 : decode cL_law 515 = .ok (.aload_n 2, 1) := by decide +kernel
theorem dL_law_516 : decode cL_law 516 = .ok (.aload_n 0, 1) := by decide +kernel
theorem dL_law_517 : decode cL_law 517 = .ok (.iload_n 3, 1) := by decide +kernel
theorem dL_law_518 : decode cL_law 518 = .ok (.iconst 1, 1) := by decide +kernel
theorem dL_law_519 : decode cL_law 519 = .ok (.iadd, 1) := by decide +kernel
theorem dL_law_520 : decode cL_law 520 = .ok (.iaload, 1) := by decide +kernel
theorem dL_law_521 : decode cL_law 521 = .ok (.aload_n 0, 1) := by decide +kernel
theorem dL_law_522 : decode cL_law 522 = .ok (.iload_n 3, 1) := by decide +kernel
theorem dL_law_523 : decode cL_law 523 = .ok (.iconst 2, 1) := by decide +kernel
theorem dL_law_524 : decode cL_law 524 = .ok (.iadd, 1) := by decide +kernel
theorem dL_law_525 : decode cL_law 525 = .ok (.iaload, 1) := by decide +kernel
theorem dL_law_526 : decode cL_law 526 = .ok (.aload_n 0, 1) := by decide +kernel
theorem dL_law_527 : decode cL_law 527 = .ok (.iload_n 3, 1) := by decide +kernel
theorem dL_law_528 : decode cL_law 528 = .ok (.iconst 3, 1) := by decide +kernel
theorem dL_law_529 : decode cL_law 529 = .ok (.iadd, 1) := by decide +kernel
theorem dL_law_530 : decode cL_law 530 = .ok (.iaload, 1) := by decide +kernel
theorem dL_law_531 : decode cL_law 531 = .ok (.aload_n 0, 1) := by decide +kernel
theorem dL_law_532 : decode cL_law 532 = .ok (.iload_n 3, 1) := by decide +kernel
theorem dL_law_533 : decode cL_law 533 = .ok (.iconst 4, 1) := by decide +kernel
theorem dL_law_534 : decode cL_law 534 = .ok (.iadd, 1) := by decide +kernel
theorem dL_law_535 : decode cL_law 535 = .ok (.iaload, 1) := by decide +kernel
theorem dL_law_536 : decode cL_law 536 = .ok (.aload_n 0, 1) := by decide +kernel
theorem dL_law_537 : decode cL_law 537 = .ok (.iload_n 3, 1) := by decide +kernel
theorem dL_law_538 : decode cL_law 538 = .ok (.iconst 5, 1) := by decide +kernel
theorem dL_law_539 : decode cL_law 539 = .ok (.iadd, 1) := by decide +kernel
theorem dL_law_540 : decode cL_law 540 = .ok (.iaload, 1) := by decide +kernel
theorem dL_law_541 : decode cL_law 541 = .ok (.invokevirtual 53, 3) := by decide +kernel
theorem dL_law_544 : decode cL_law 544 = .ok (.if_icmp .eq 1210, 3) := by decide +kernel
theorem dL_law_549 : decode cL_law 549 = .ok (.aload_n 1, 1) := by decide +kernel
theorem dL_law_550 : decode cL_law 550 = .ok (.aload_n 0, 1) := by decide +kernel
theorem dL_law_551 : decode cL_law 551 = .ok (.iload_n 3, 1) := by decide +kernel
theorem dL_law_552 : decode cL_law 552 = .ok (.iconst 1, 1) := by decide +kernel
theorem dL_law_553 : decode cL_law 553 = .ok (.iadd, 1) := by decide +kernel
theorem dL_law_554 : decode cL_law 554 = .ok (.iaload, 1) := by decide +kernel
theorem dL_law_555 : decode cL_law 555 = .ok (.invokevirtual 54, 3) := by decide +kernel
theorem dL_law_558 : decode cL_law 558 = .ok (.aload_n 2, 1) := by decide +kernel
theorem dL_law_559 : decode cL_law 559 = .ok (.aload_n 0, 1) := by decide +kernel
theorem dL_law_560 : decode cL_law 560 = .ok (.iload_n 3, 1) := by decide +kernel
theorem dL_law_561 : decode cL_law 561 = .ok (.iconst 1, 1) := by decide +kernel
theorem dL_law_562 : decode cL_law 562 = .ok (.iadd, 1) := by decide +kernel
theorem dL_law_563 : decode cL_law 563 = .ok (.iaload, 1) := by decide +kernel
theorem dL_law_564 : decode cL_law 564 = .ok (.invokevirtual 58, 3) := by decide +kernel
theorem dL_law_567 : decode cL_law 567 = .ok (.if_icmp .eq 1187, 3) := by decide +kernel
theorem dL_law_572 : decode cL_law 572 = .ok (.aload_n 1, 1) := by decide +kernel
theorem dL_law_573 : decode cL_law 573 = .ok (.aload_n 0, 1) := by decide +kernel
theorem dL_law_574 : decode cL_law 574 = .ok (.iload_n 3, 1) := by decide +kernel
theorem dL_law_575 : decode cL_law 575 = .ok (.iconst 1, 1) := by decide +kernel
theorem dL_law_576 : decode cL_law 576 = .ok (.iadd, 1) := by decide +kernel
theorem dL_law_577 : decode cL_law 577 = .ok (.iaload, 1) := by decide +kernel
theorem dL_law_578 : decode cL_law 578 = .ok (.invokevirtual 59, 3) := by decide +kernel
theorem dL_law_581 : decode cL_law 581 = .ok (.aload_n 2, 1) := by decide +kernel
theorem dL_law_582 : decode cL_law 582 = .ok (.aload_n 0, 1) := by decide +kernel
theorem dL_law_583 : decode cL_law 583 = .ok (.iload_n 3, 1) := by decide +kernel
theorem dL_law_584 : decode cL_law 584 = .ok (.iconst 1, 1) := by decide +kernel
theorem dL_law_585 : decode cL_law 585 = .ok (.iadd, 1) := by decide +kernel
theorem dL_law_586 : decode cL_law 586 = .ok (.iaload, 1) := by decide +kernel
theorem dL_law_587 : decode cL_law 587 = .ok (.invokevirtual 62, 3) := by decide +kernel
theorem dL_law_590 : decode cL_law 590 = .ok (.if_icmp .eq 1164, 3) := by decide +kernel
theorem dL_law_595 : decode cL_law 595 = .ok (.aload_n 1, 1) := by decide +kernel
theorem dL_law_596 : decode cL_law 596 = .ok (.aload_n 0, 1) := by decide +kernel
theorem dL_law_597 : decode cL_law 597 = .ok (.iload_n 3, 1) := by decide +kernel
theorem dL_law_598 : decode cL_law 598 = .ok (.iconst 1, 1) := by decide +kernel
theorem dL_law_599 : decode cL_law 599 = .ok (.iadd, 1) := by decide +kernel
theorem dL_law_600 : decode cL_law 600 = .ok (.iaload, 1) := by decide +kernel
theorem dL_law_601 : decode cL_law 601 = .ok (.invokevirtual 63, 3) := by decide +kernel
theorem dL_law_604 : decode cL_law 604 = .ok (.aload_n 2, 1) := by decide +kernel
theorem dL_law_605 : decode cL_law 605 = .ok (.aload_n 0, 1) := by decide +kernel
theorem dL_law_606 : decode cL_law 606 = .ok (.iload_n 3, 1) := by decide +kernel
theorem dL_law_607 : decode cL_law 607 = .ok (.iconst 1, 1) := by decide +kernel
theorem dL_law_608 : decode cL_law 608 = .ok (.iadd, 1) := by decide +kernel
theorem dL_law_609 : decode cL_law 609 = .ok (.iaload, 1) := by decide +kernel
theorem dL_law_610 : decode cL_law 610 = .ok (.invokevirtual 66, 3) := by decide +kernel
theorem dL_law_613 : decode cL_law 613 = .ok (.if_icmp .eq 1141, 3) := by decide +kernel
theorem dL_law_618 : decode cL_law 618 = .ok (.aload_n 1, 1) := by decide +kernel
theorem dL_law_619 : decode cL_law 619 = .ok (.aload_n 0, 1) := by decide +kernel
theorem dL_law_620 : decode cL_law 620 = .ok (.iload_n 3, 1) := by decide +kernel
theorem dL_law_621 : decode cL_law 621 = .ok (.iconst 1, 1) := by decide +kernel
theorem dL_law_622 : decode cL_law 622 = .ok (.iadd, 1) := by decide +kernel
theorem dL_law_623 : decode cL_law 623 = .ok (.iaload, 1) := by decide +kernel
theorem dL_law_624 : decode cL_law 624 = .ok (.invokevirtual 67, 3) := by decide +kernel
theorem dL_law_627 : decode cL_law 627 = .ok (.aload_n 2, 1) := by decide +kernel
theorem dL_law_628 : decode cL_law 628 = .ok (.aload_n 0, 1) := by decide +kernel
theorem dL_law_629 : decode cL_law 629 = .ok (.iload_n 3, 1) := by decide +kernel
theorem dL_law_630 : decode cL_law 630 = .ok (.iconst 1, 1) := by decide +kernel
theorem dL_law_631 : decode cL_law 631 = .ok (.iadd, 1) := by decide +kernel
theorem dL_law_632 : decode cL_law 632 = .ok (.iaload, 1) := by decide +kernel
theorem dL_law_633 : decode cL_law 633 = .ok (.invokevirtual 70, 3) := by decide +kernel
theorem dL_law_636 : decode cL_law 636 = .ok (.if_icmp .eq 1118, 3) := by decide +kernel
theorem dL_law_641 : decode cL_law 641 = .ok (.aload_n 1, 1) := by decide +kernel
theorem dL_law_642 : decode cL_law 642 = .ok (.aload_n 0, 1) := by decide +kernel
theorem dL_law_643 : decode cL_law 643 = .ok (.iload_n 3, 1) := by decide +kernel
theorem dL_law_644 : decode cL_law 644 = .ok (.iconst 1, 1) := by decide +kernel
theorem dL_law_645 : decode cL_law 645 = .ok (.iadd, 1) := by decide +kernel
theorem dL_law_646 : decode cL_law 646 = .ok (.iaload, 1) := by decide +kernel
theorem dL_law_647 : decode cL_law 647 = .ok (.aload_n 0, 1) := by decide +kernel
theorem dL_law_648 : decode cL_law 648 = .ok (.iload_n 3, 1) := by decide +kernel
theorem dL_law_649 : decode cL_law 649 = .ok (.iconst 2, 1) := by decide +kernel
theorem dL_law_650 : decode cL_law 650 = .ok (.iadd, 1) := by decide +kernel
theorem dL_law_651 : decode cL_law 651 = .ok (.iaload, 1) := by decide +kernel
theorem dL_law_652 : decode cL_law 652 = .ok (.aload_n 0, 1) := by decide +kernel
theorem dL_law_653 : decode cL_law 653 = .ok (.iload_n 3, 1) := by decide +kernel
theorem dL_law_654 : decode cL_law 654 = .ok (.iconst 3, 1) := by decide +kernel
theorem dL_law_655 : decode cL_law 655 = .ok (.iadd, 1) := by decide +kernel
theorem dL_law_656 : decode cL_law 656 = .ok (.iaload, 1) := by decide +kernel
theorem dL_law_657 : decode cL_law 657 = .ok (.invokevirtual 71, 3) := by decide +kernel
theorem dL_law_660 : decode cL_law 660 = .ok (.aload_n 2, 1) := by decide +kernel
theorem dL_law_661 : decode cL_law 661 = .ok (.aload_n 0, 1) := by decide +kernel
theorem dL_law_662 : decode cL_law 662 = .ok (.iload_n 3, 1) := by decide +kernel
theorem dL_law_663 : decode cL_law 663 = .ok (.iconst 1, 1) := by decide +kernel
theorem dL_law_664 : decode cL_law 664 = .ok (.iadd, 1) := by decide +kernel
theorem dL_law_665 : decode cL_law 665 = .ok (.iaload, 1) := by decide +kernel
theorem dL_law_666 : decode cL_law 666 = .ok (.aload_n 0, 1) := by decide +kernel
theorem dL_law_667 : decode cL_law 667 = .ok (.iload_n 3, 1) := by decide +kernel
theorem dL_law_668 : decode cL_law 668 = .ok (.iconst 2, 1) := by decide +kernel
theorem dL_law_669 : decode cL_law 669 = .ok (.iadd, 1) := by decide +kernel
theorem dL_law_670 : decode cL_law 670 = .ok (.iaload, 1) := by decide +kernel
theorem dL_law_671 : decode cL_law 671 = .ok (.aload_n 0, 1) := by decide +kernel
theorem dL_law_672 : decode cL_law 672 = .ok (.iload_n 3, 1) := by decide +kernel
theorem dL_law_673 : decode cL_law 673 = .ok (.iconst 3, 1) := by decide +kernel
theorem dL_law_674 : decode cL_law 674 = .ok (.iadd, 1) := by decide +kernel
theorem dL_law_675 : decode cL_law 675 = .ok (.iaload, 1) := by decide +kernel
theorem dL_law_676 : decode cL_law 676 = .ok (.invokevirtual 75, 3) := by decide +kernel
theorem dL_law_679 : decode cL_law 679 = .ok (.if_icmp .eq 1075, 3) := by decide +kernel
theorem dL_law_684 : decode cL_law 684 = .ok (.aload_n 1, 1) := by decide +kernel
theorem dL_law_685 : decode cL_law 685 = .ok (.aload_n 0, 1) := by decide +kernel
theorem dL_law_686 : decode cL_law 686 = .ok (.iload_n 3, 1) := by decide +kernel
theorem dL_law_687 : decode cL_law 687 = .ok (.iconst 1, 1) := by decide +kernel
theorem dL_law_688 : decode cL_law 688 = .ok (.iadd, 1) := by decide +kernel
theorem dL_law_689 : decode cL_law 689 = .ok (.iaload, 1) := by decide +kernel
theorem dL_law_690 : decode cL_law 690 = .ok (.aload_n 0, 1) := by decide +kernel
theorem dL_law_691 : decode cL_law 691 = .ok (.iload_n 3, 1) := by decide +kernel
theorem dL_law_692 : decode cL_law 692 = .ok (.iconst 2, 1) := by decide +kernel
theorem dL_law_693 : decode cL_law 693 = .ok (.iadd, 1) := by decide +kernel
theorem dL_law_694 : decode cL_law 694 = .ok (.iaload, 1) := by decide +kernel
theorem dL_law_695 : decode cL_law 695 = .ok (.aload_n 0, 1) := by decide +kernel
theorem dL_law_696 : decode cL_law 696 = .ok (.iload_n 3, 1) := by decide +kernel
theorem dL_law_697 : decode cL_law 697 = .ok (.iconst 3, 1) := by decide +kernel
theorem dL_law_698 : decode cL_law 698 = .ok (.iadd, 1) := by decide +kernel
theorem dL_law_699 : decode cL_law 699 = .ok (.iaload, 1) := by decide +kernel
theorem dL_law_700 : decode cL_law 700 = .ok (.invokevirtual 76, 3) := by decide +kernel
theorem dL_law_703 : decode cL_law 703 = .ok (.aload_n 2, 1) := by decide +kernel
theorem dL_law_704 : decode cL_law 704 = .ok (.aload_n 0, 1) := by decide +kernel
theorem dL_law_705 : decode cL_law 705 = .ok (.iload_n 3, 1) := by decide +kernel
theorem dL_law_706 : decode cL_law 706 = .ok (.iconst 1, 1) := by decide +kernel
theorem dL_law_707 : decode cL_law 707 = .ok (.iadd, 1) := by decide +kernel
theorem dL_law_708 : decode cL_law 708 = .ok (.iaload, 1) := by decide +kernel
theorem dL_law_709 : decode cL_law 709 = .ok (.aload_n 0, 1) := by decide +kernel
theorem dL_law_710 : decode cL_law 710 = .ok (.iload_n 3, 1) := by decide +kernel
theorem dL_law_711 : decode cL_law 711 = .ok (.iconst 2, 1) := by decide +kernel
theorem dL_law_712 : decode cL_law 712 = .ok (.iadd, 1) := by decide +kernel
theorem dL_law_713 : decode cL_law 713 = .ok (.iaload, 1) := by decide +kernel
theorem dL_law_714 : decode cL_law 714 = .ok (.aload_n 0, 1) := by decide +kernel
theorem dL_law_715 : decode cL_law 715 = .ok (.iload_n 3, 1) := by decide +kernel
theorem dL_law_716 : decode cL_law 716 = .ok (.iconst 3, 1) := by decide +kernel
theorem dL_law_717 : decode cL_law 717 = .ok (.iadd, 1) := by decide +kernel
theorem dL_law_718 : decode cL_law 718 = .ok (.iaload, 1) := by decide +kernel
theorem dL_law_719 : decode cL_law 719 = .ok (.invokevirtual 79, 3) := by decide +kernel
theorem dL_law_722 : decode cL_law 722 = .ok (.if_icmp .eq 1032, 3) := by decide +kernel
theorem dL_law_727 : decode cL_law 727 = .ok (.aload_n 1, 1) := by decide +kernel
theorem dL_law_728 : decode cL_law 728 = .ok (.aload_n 0, 1) := by decide +kernel
theorem dL_law_729 : decode cL_law 729 = .ok (.iload_n 3, 1) := by decide +kernel
theorem dL_law_730 : decode cL_law 730 = .ok (.iconst 1, 1) := by decide +kernel
theorem dL_law_731 : decode cL_law 731 = .ok (.iadd, 1) := by decide +kernel
theorem dL_law_732 : decode cL_law 732 = .ok (.iaload, 1) := by decide +kernel
theorem dL_law_733 : decode cL_law 733 = .ok (.aload_n 0, 1) := by decide +kernel
theorem dL_law_734 : decode cL_law 734 = .ok (.iload_n 3, 1) := by decide +kernel
theorem dL_law_735 : decode cL_law 735 = .ok (.iconst 2, 1) := by decide +kernel
theorem dL_law_736 : decode cL_law 736 = .ok (.iadd, 1) := by decide +kernel
theorem dL_law_737 : decode cL_law 737 = .ok (.iaload, 1) := by decide +kernel
theorem dL_law_738 : decode cL_law 738 = .ok (.aload_n 0, 1) := by decide +kernel
theorem dL_law_739 : decode cL_law 739 = .ok (.iload_n 3, 1) := by decide +kernel
theorem dL_law_740 : decode cL_law 740 = .ok (.iconst 3, 1) := by decide +kernel
theorem dL_law_741 : decode cL_law 741 = .ok (.iadd, 1) := by decide +kernel
theorem dL_law_742 : decode cL_law 742 = .ok (.iaload, 1) := by decide +kernel
theorem dL_law_743 : decode cL_law 743 = .ok (.invokevirtual 80, 3) := by decide +kernel
theorem dL_law_746 : decode cL_law 746 = .ok (.aload_n 2, 1) := by decide +kernel
theorem dL_law_747 : decode cL_law 747 = .ok (.aload_n 0, 1) := by decide +kernel
theorem dL_law_748 : decode cL_law 748 = .ok (.iload_n 3, 1) := by decide +kernel
theorem dL_law_749 : decode cL_law 749 = .ok (.iconst 1, 1) := by decide +kernel
theorem dL_law_750 : decode cL_law 750 = .ok (.iadd, 1) := by decide +kernel
theorem dL_law_751 : decode cL_law 751 = .ok (.iaload, 1) := by decide +kernel
theorem dL_law_752 : decode cL_law 752 = .ok (.aload_n 0, 1) := by decide +kernel
theorem dL_law_753 : decode cL_law 753 = .ok (.iload_n 3, 1) := by decide +kernel
theorem dL_law_754 : decode cL_law 754 = .ok (.iconst 2, 1) := by decide +kernel
theorem dL_law_755 : decode cL_law 755 = .ok (.iadd, 1) := by decide +kernel
theorem dL_law_756 : decode cL_law 756 = .ok (.iaload, 1) := by decide +kernel
theorem dL_law_757 : decode cL_law 757 = .ok (.aload_n 0, 1) := by decide +kernel
theorem dL_law_758 : decode cL_law 758 = .ok (.iload_n 3, 1) := by decide +kernel
theorem dL_law_759 : decode cL_law 759 = .ok (.iconst 3, 1) := by decide +kernel
theorem dL_law_760 : decode cL_law 760 = .ok (.iadd, 1) := by decide +kernel
theorem dL_law_761 : decode cL_law 761 = .ok (.iaload, 1) := by decide +kernel
theorem dL_law_762 : decode cL_law 762 = .ok (.invokevirtual 83, 3) := by decide +kernel
theorem dL_law_765 : decode cL_law 765 = .ok (.if_icmp .eq 989, 3) := by decide +kernel
theorem dL_law_770 : decode cL_law 770 = .ok (.aload_n 1, 1) := by decide +kernel
theorem dL_law_771 : decode cL_law 771 = .ok (.aload_n 0, 1) := by decide +kernel
theorem dL_law_772 : decode cL_law 772 = .ok (.iload_n 3, 1) := by decide +kernel
theorem dL_law_773 : decode cL_law 773 = .ok (.iconst 1, 1) := by decide +kernel
theorem dL_law_774 : decode cL_law 774 = .ok (.iadd, 1) := by decide +kernel
theorem dL_law_775 : decode cL_law 775 = .ok (.iaload, 1) := by decide +kernel
theorem dL_law_776 : decode cL_law 776 = .ok (.aload_n 0, 1) := by decide +kernel
theorem dL_law_777 : decode cL_law 777 = .ok (.iload_n 3, 1) := by decide +kernel
theorem dL_law_778 : decode cL_law 778 = .ok (.iconst 2, 1) := by decide +kernel
theorem dL_law_779 : decode cL_law 779 = .ok (.iadd, 1) := by decide +kernel
theorem dL_law_780 : decode cL_law 780 = .ok (.iaload, 1) := by decide +kernel
theorem dL_law_781 : decode cL_law 781 = .ok (.invokevirtual 84, 3) := by decide +kernel
theorem dL_law_784 : decode cL_law 784 = .ok (.aload_n 2, 1) := by decide +kernel
theorem dL_law_785 : decode cL_law 785 = .ok (.aload_n 0, 1) := by decide +kernel
theorem dL_law_786 : decode cL_law 786 = .ok (.iload_n 3, 1) := by decide +kernel
theorem dL_law_787 : decode cL_law 787 = .ok (.iconst 1, 1) := by decide +kernel
theorem dL_law_788 : decode cL_law 788 = .ok (.iadd, 1) := by decide +kernel
theorem dL_law_789 : decode cL_law 789 = .ok (.iaload, 1) := by decide +kernel
theorem dL_law_790 : decode cL_law 790 = .ok (.aload_n 0, 1) := by decide +kernel
theorem dL_law_791 : decode cL_law 791 = .ok (.iload_n 3, 1) := by decide +kernel
theorem dL_law_792 : decode cL_law 792 = .ok (.iconst 2, 1) := by decide +kernel
theorem dL_law_793 : decode cL_law 793 = .ok (.iadd, 1) := by decide +kernel
theorem dL_law_794 : decode cL_law 794 = .ok (.iaload, 1) := by decide +kernel
theorem dL_law_795 : decode cL_law 795 = .ok (.invokevirtual 88, 3) := by decide +kernel
theorem dL_law_798 : decode cL_law 798 = .ok (.if_icmp .eq 956, 3) := by decide +kernel
theorem dL_law_803 : decode cL_law 803 = .ok (.aload_n 1, 1) := by decide +kernel
theorem dL_law_804 : decode cL_law 804 = .ok (.aload_n 0, 1) := by decide +kernel
theorem dL_law_805 : decode cL_law 805 = .ok (.iload_n 3, 1) := by decide +kernel
theorem dL_law_806 : decode cL_law 806 = .ok (.iconst 1, 1) := by decide +kernel
theorem dL_law_807 : decode cL_law 807 = .ok (.iadd, 1) := by decide +kernel
theorem dL_law_808 : decode cL_law 808 = .ok (.iaload, 1) := by decide +kernel
theorem dL_law_809 : decode cL_law 809 = .ok (.aload_n 0, 1) := by decide +kernel
theorem dL_law_810 : decode cL_law 810 = .ok (.iload_n 3, 1) := by decide +kernel
theorem dL_law_811 : decode cL_law 811 = .ok (.iconst 2, 1) := by decide +kernel
theorem dL_law_812 : decode cL_law 812 = .ok (.iadd, 1) := by decide +kernel
theorem dL_law_813 : decode cL_law 813 = .ok (.iaload, 1) := by decide +kernel
theorem dL_law_814 : decode cL_law 814 = .ok (.aload_n 0, 1) := by decide +kernel
theorem dL_law_815 : decode cL_law 815 = .ok (.iload_n 3, 1) := by decide +kernel
theorem dL_law_816 : decode cL_law 816 = .ok (.iconst 3, 1) := by decide +kernel
theorem dL_law_817 : decode cL_law 817 = .ok (.iadd, 1) := by decide +kernel
theorem dL_law_818 : decode cL_law 818 = .ok (.iaload, 1) := by decide +kernel
theorem dL_law_819 : decode cL_law 819 = .ok (.invokevirtual 89, 3) := by decide +kernel
theorem dL_law_822 : decode cL_law 822 = .ok (.aload_n 2, 1) := by decide +kernel
theorem dL_law_823 : decode cL_law 823 = .ok (.aload_n 0, 1) := by decide +kernel
theorem dL_law_824 : decode cL_law 824 = .ok (.iload_n 3, 1) := by decide +kernel
theorem dL_law_825 : decode cL_law 825 = .ok (.iconst 1, 1) := by decide +kernel
theorem dL_law_826 : decode cL_law 826 = .ok (.iadd, 1) := by decide +kernel
theorem dL_law_827 : decode cL_law 827 = .ok (.iaload, 1) := by decide +kernel
theorem dL_law_828 : decode cL_law 828 = .ok (.aload_n 0, 1) := by decide +kernel
theorem dL_law_829 : decode cL_law 829 = .ok (.iload_n 3, 1) := by decide +kernel
theorem dL_law_830 : decode cL_law 830 = .ok (.iconst 2, 1) := by decide +kernel
theorem dL_law_831 : decode cL_law 831 = .ok (.iadd, 1) := by decide +kernel
theorem dL_law_832 : decode cL_law 832 = .ok (.iaload, 1) := by decide +kernel
theorem dL_law_833 : decode cL_law 833 = .ok (.aload_n 0, 1) := by decide +kernel
theorem dL_law_834 : decode cL_law 834 = .ok (.iload_n 3, 1) := by decide +kernel
theorem dL_law_835 : decode cL_law 835 = .ok (.iconst 3, 1) := by decide +kernel
theorem dL_law_836 : decode cL_law 836 = .ok (.iadd, 1) := by decide +kernel
theorem dL_law_837 : decode cL_law 837 = .ok (.iaload, 1) := by decide +kernel
theorem dL_law_838 : decode cL_law 838 = .ok (.invokevirtual 92, 3) := by decide +kernel
theorem dL_law_841 : decode cL_law 841 = .ok (.if_icmp .eq 913, 3) := by decide +kernel
theorem dL_law_846 : decode cL_law 846 = .ok (.aload_n 1, 1) := by decide +kernel
theorem dL_law_847 : decode cL_law 847 = .ok (.aload_n 0, 1) := by decide +kernel
theorem dL_law_848 : decode cL_law 848 = .ok (.iload_n 3, 1) := by decide +kernel
theorem dL_law_849 : decode cL_law 849 = .ok (.iconst 1, 1) := by decide +kernel
theorem dL_law_850 : decode cL_law 850 = .ok (.iadd, 1) := by decide +kernel
theorem dL_law_851 : decode cL_law 851 = .ok (.iaload, 1) := by decide +kernel
theorem dL_law_852 : decode cL_law 852 = .ok (.aload_n 0, 1) := by decide +kernel
theorem dL_law_853 : decode cL_law 853 = .ok (.iload_n 3, 1) := by decide +kernel
theorem dL_law_854 : decode cL_law 854 = .ok (.iconst 2, 1) := by decide +kernel
theorem dL_law_855 : decode cL_law 855 = .ok (.iadd, 1) := by decide +kernel
theorem dL_law_856 : decode cL_law 856 = .ok (.iaload, 1) := by decide +kernel
theorem dL_law_857 : decode cL_law 857 = .ok (.aload_n 0, 1) := by decide +kernel
theorem dL_law_858 : decode cL_law 858 = .ok (.iload_n 3, 1) := by decide +kernel
theorem dL_law_859 : decode cL_law 859 = .ok (.iconst 3, 1) := by decide +kernel
theorem dL_law_860 : decode cL_law 860 = .ok (.iadd, 1) := by decide +kernel
theorem dL_law_861 : decode cL_law 861 = .ok (.iaload, 1) := by decide +kernel
theorem dL_law_862 : decode cL_law 862 = .ok (.invokevirtual 93, 3) := by decide +kernel
theorem dL_law_865 : decode cL_law 865 = .ok (.aload_n 2, 1) := by decide +kernel
theorem dL_law_866 : decode cL_law 866 = .ok (.aload_n 0, 1) := by decide +kernel
theorem dL_law_867 : decode cL_law 867 = .ok (.iload_n 3, 1) := by decide +kernel
theorem dL_law_868 : decode cL_law 868 = .ok (.iconst 1, 1) := by decide +kernel
theorem dL_law_869 : decode cL_law 869 = .ok (.iadd, 1) := by decide +kernel
theorem dL_law_870 : decode cL_law 870 = .ok (.iaload, 1) := by decide +kernel
theorem dL_law_871 : decode cL_law 871 = .ok (.aload_n 0, 1) := by decide +kernel
theorem dL_law_872 : decode cL_law 872 = .ok (.iload_n 3, 1) := by decide +kernel
theorem dL_law_873 : decode cL_law 873 = .ok (.iconst 2, 1) := by decide +kernel
theorem dL_law_874 : decode cL_law 874 = .ok (.iadd, 1) := by decide +kernel
theorem dL_law_875 : decode cL_law 875 = .ok (.iaload, 1) := by decide +kernel
theorem dL_law_876 : decode cL_law 876 = .ok (.aload_n 0, 1) := by decide +kernel
theorem dL_law_877 : decode cL_law 877 = .ok (.iload_n 3, 1) := by decide +kernel
theorem dL_law_878 : decode cL_law 878 = .ok (.iconst 3, 1) := by decide +kernel
theorem dL_law_879 : decode cL_law 879 = .ok (.iadd, 1) := by decide +kernel
theorem dL_law_880 : decode cL_law 880 = .ok (.iaload, 1) := by decide +kernel
theorem dL_law_881 : decode cL_law 881 = .ok (.invokevirtual 96, 3) := by decide +kernel
theorem dL_law_884 : decode cL_law 884 = .ok (.if_icmp .eq 870, 3) := by decide +kernel
theorem dL_law_889 : decode cL_law 889 = .ok (.aload_n 1, 1) := by decide +kernel
theorem dL_law_890 : decode cL_law 890 = .ok (.aload_n 0, 1) := by decide +kernel
theorem dL_law_891 : decode cL_law 891 = .ok (.iload_n 3, 1) := by decide +kernel
theorem dL_law_892 : decode cL_law 892 = .ok (.iconst 1, 1) := by decide +kernel
theorem dL_law_893 : decode cL_law 893 = .ok (.iadd, 1) := by decide +kernel
theorem dL_law_894 : decode cL_law 894 = .ok (.iaload, 1) := by decide +kernel
theorem dL_law_895 : decode cL_law 895 = .ok (.aload_n 0, 1) := by decide +kernel
theorem dL_law_896 : decode cL_law 896 = .ok (.iload_n 3, 1) := by decide +kernel
theorem dL_law_897 : decode cL_law 897 = .ok (.iconst 2, 1) := by decide +kernel
theorem dL_law_898 : decode cL_law 898 = .ok (.iadd, 1) := by decide +kernel
theorem dL_law_899 : decode cL_law 899 = .ok (.iaload, 1) := by decide +kernel
theorem dL_law_900 : decode cL_law 900 = .ok (.aload_n 0, 1) := by decide +kernel
theorem dL_law_901 : decode cL_law 901 = .ok (.iload_n 3, 1) := by decide +kernel
theorem dL_law_902 : decode cL_law 902 = .ok (.iconst 3, 1) := by decide +kernel
theorem dL_law_903 : decode cL_law 903 = .ok (.iadd, 1) := by decide +kernel
theorem dL_law_904 : decode cL_law 904 = .ok (.iaload, 1) := by decide +kernel
theorem dL_law_905 : decode cL_law 905 = .ok (.invokevirtual 97, 3) := by decide +kernel
theorem dL_law_908 : decode cL_law 908 = .ok (.aload_n 2, 1) := by decide +kernel
theorem dL_law_909 : decode cL_law 909 = .ok (.aload_n 0, 1) := by decide +kernel
theorem dL_law_910 : decode cL_law 910 = .ok (.iload_n 3, 1) := by decide +kernel
theorem dL_law_911 : decode cL_law 911 = .ok (.iconst 1, 1) := by decide +kernel
theorem dL_law_912 : decode cL_law 912 = .ok (.iadd, 1) := by decide +kernel
theorem dL_law_913 : decode cL_law 913 = .ok (.iaload, 1) := by decide +kernel
theorem dL_law_914 : decode cL_law 914 = .ok (.aload_n 0, 1) := by decide +kernel
theorem dL_law_915 : decode cL_law 915 = .ok (.iload_n 3, 1) := by decide +kernel
theorem dL_law_916 : decode cL_law 916 = .ok (.iconst 2, 1) := by decide +kernel
theorem dL_law_917 : decode cL_law 917 = .ok (.iadd, 1) := by decide +kernel
theorem dL_law_918 : decode cL_law 918 = .ok (.iaload, 1) := by decide +kernel
theorem dL_law_919 : decode cL_law 919 = .ok (.aload_n 0, 1) := by decide +kernel
theorem dL_law_920 : decode cL_law 920 = .ok (.iload_n 3, 1) := by decide +kernel
theorem dL_law_921 : decode cL_law 921 = .ok (.iconst 3, 1) := by decide +kernel
theorem dL_law_922 : decode cL_law 922 = .ok (.iadd, 1) := by decide +kernel
theorem dL_law_923 : decode cL_law 923 = .ok (.iaload, 1) := by decide +kernel
theorem dL_law_924 : decode cL_law 924 = .ok (.invokevirtual 100, 3) := by decide +kernel
theorem dL_law_927 : decode cL_law 927 = .ok (.if_icmp .eq 827, 3) := by decide +kernel
theorem dL_law_932 : decode cL_law 932 = .ok (.aload_n 1, 1) := by decide +kernel
theorem dL_law_933 : decode cL_law 933 = .ok (.aload_n 0, 1) := by decide +kernel
theorem dL_law_934 : decode cL_law 934 = .ok (.iload_n 3, 1) := by decide +kernel
theorem dL_law_935 : decode cL_law 935 = .ok (.iconst 1, 1) := by decide +kernel
theorem dL_law_936 : decode cL_law 936 = .ok (.iadd, 1) := by decide +kernel
theorem dL_law_937 : decode cL_law 937 = .ok (.iaload, 1) := by decide +kernel
theorem dL_law_938 : decode cL_law 938 = .ok (.aload_n 0, 1) := by decide +kernel
theorem dL_law_939 : decode cL_law 939 = .ok (.iload_n 3, 1) := by decide +kernel
theorem dL_law_940 : decode cL_law 940 = .ok (.iconst 2, 1) := by decide +kernel
theorem dL_law_941 : decode cL_law 941 = .ok (.iadd, 1) := by decide +kernel
theorem dL_law_942 : decode cL_law 942 = .ok (.iaload, 1) := by decide +kernel
theorem dL_law_943 : decode cL_law 943 = .ok (.aload_n 0, 1) := by decide +kernel
theorem dL_law_944 : decode cL_law 944 = .ok (.iload_n 3, 1) := by decide +kernel
theorem dL_law_945 : decode cL_law 945 = .ok (.iconst 3, 1) := by decide +kernel
theorem dL_law_946 : decode cL_law 946 = .ok (.iadd, 1) := by decide +kernel
theorem dL_law_947 : decode cL_law 947 = .ok (.iaload, 1) := by decide +kernel
theorem dL_law_948 : decode cL_law 948 = .ok (.invokevirtual 101, 3) := by decide +kernel
theorem dL_law_951 : decode cL_law 951 = .ok (.aload_n 2, 1) := by decide +kernel
theorem dL_law_952 : decode cL_law 952 = .ok (.aload_n 0, 1) := by decide +kernel
theorem dL_law_953 : decode cL_law 953 = .ok (.iload_n 3, 1) := by decide +kernel
theorem dL_law_954 : decode cL_law 954 = .ok (.iconst 1, 1) := by decide +kernel
theorem dL_law_955 : decode cL_law 955 = .ok (.iadd, 1) := by decide +kernel
theorem dL_law_956 : decode cL_law 956 = .ok (.iaload, 1) := by decide +kernel
theorem dL_law_957 : decode cL_law 957 = .ok (.aload_n 0, 1) := by decide +kernel
theorem dL_law_958 : decode cL_law 958 = .ok (.iload_n 3, 1) := by decide +kernel
theorem dL_law_959 : decode cL_law 959 = .ok (.iconst 2, 1) := by decide +kernel
theorem dL_law_960 : decode cL_law 960 = .ok (.iadd, 1) := by decide +kernel
theorem dL_law_961 : decode cL_law 961 = .ok (.iaload, 1) := by decide +kernel
theorem dL_law_962 : decode cL_law 962 = .ok (.aload_n 0, 1) := by decide +kernel
theorem dL_law_963 : decode cL_law 963 = .ok (.iload_n 3, 1) := by decide +kernel
theorem dL_law_964 : decode cL_law 964 = .ok (.iconst 3, 1) := by decide +kernel
theorem dL_law_965 : decode cL_law 965 = .ok (.iadd, 1) := by decide +kernel
theorem dL_law_966 : decode cL_law 966 = .ok (.iaload, 1) := by decide +kernel
theorem dL_law_967 : decode cL_law 967 = .ok (.invokevirtual 104, 3) := by decide +kernel
theorem dL_law_970 : decode cL_law 970 = .ok (.if_icmp .eq 784, 3) := by decide +kernel
theorem dL_law_975 : decode cL_law 975 = .ok (.aload_n 1, 1) := by decide +kernel
theorem dL_law_976 : decode cL_law 976 = .ok (.aload_n 0, 1) := by decide +kernel
theorem dL_law_977 : decode cL_law 977 = .ok (.iload_n 3, 1) := by decide +kernel
theorem dL_law_978 : decode cL_law 978 = .ok (.iconst 1, 1) := by decide +kernel
theorem dL_law_979 : decode cL_law 979 = .ok (.iadd, 1) := by decide +kernel
theorem dL_law_980 : decode cL_law 980 = .ok (.iaload, 1) := by decide +kernel
theorem dL_law_981 : decode cL_law 981 = .ok (.aload_n 0, 1) := by decide +kernel
theorem dL_law_982 : decode cL_law 982 = .ok (.iload_n 3, 1) := by decide +kernel
theorem dL_law_983 : decode cL_law 983 = .ok (.iconst 2, 1) := by decide +kernel
theorem dL_law_984 : decode cL_law 984 = .ok (.iadd, 1) := by decide +kernel
theorem dL_law_985 : decode cL_law 985 = .ok (.iaload, 1) := by decide +kernel
theorem dL_law_986 : decode cL_law 986 = .ok (.invokevirtual 105, 3) := by decide +kernel
theorem dL_law_989 : decode cL_law 989 = .ok (.aload_n 2, 1) := by decide +kernel
theorem dL_law_990 : decode cL_law 990 = .ok (.aload_n 0, 1) := by decide +kernel
theorem dL_law_991 : decode cL_law 991 = .ok (.iload_n 3, 1) := by decide +kernel
theorem dL_law_992 : decode cL_law 992 = .ok (.iconst 1, 1) := by decide +kernel
theorem dL_law_993 : decode cL_law 993 = .ok (.iadd, 1) := by decide +kernel
theorem dL_law_994 : decode cL_law 994 = .ok (.iaload, 1) := by decide +kernel
theorem dL_law_995 : decode cL_law 995 = .ok (.aload_n 0, 1) := by decide +kernel
theorem dL_law_996 : decode cL_law 996 = .ok (.iload_n 3, 1) := by decide +kernel
theorem dL_law_997 : decode cL_law 997 = .ok (.iconst 2, 1) := by decide +kernel
theorem dL_law_998 : decode cL_law 998 = .ok (.iadd, 1) := by decide +kernel
theorem dL_law_999 : decode cL_law 999 = .ok (.iaload, 1) := by decide +kernel
theorem dL_law_1000 : decode cL_law 1000 = .ok (.invokevirtual 108, 3) := by decide +kernel
theorem dL_law_1003 : decode cL_law 1003 = .ok (.if_icmp .eq 751, 3) := by decide +kernel
theorem dL_law_1008 : decode cL_law 1008 = .ok (.aload_n 1, 1) := by decide +kernel
theorem dL_law_1009 : decode cL_law 1009 = .ok (.aload_n 0, 1) := by decide +kernel
theorem dL_law_1010 : decode cL_law 1010 = .ok (.iload_n 3, 1) := by decide +kernel
theorem dL_law_1011 : decode cL_law 1011 = .ok (.iconst 1, 1) := by decide +kernel
theorem dL_law_1012 : decode cL_law 1012 = .ok (.iadd, 1) := by decide +kernel
theorem dL_law_1013 : decode cL_law 1013 = .ok (.iaload, 1) := by decide +kernel
theorem dL_law_1014 : decode cL_law 1014 = .ok (.aload_n 0, 1) := by decide +kernel
theorem dL_law_1015 : decode cL_law 1015 = .ok (.iload_n 3, 1) := by decide +kernel
theorem dL_law_1016 : decode cL_law 1016 = .ok (.iconst 2, 1) := by decide +kernel
theorem dL_law_1017 : decode cL_law 1017 = .ok (.iadd, 1) := by decide +kernel
theorem dL_law_1018 : decode cL_law 1018 = .ok (.iaload, 1) := by decide +kernel
theorem dL_law_1019 : decode cL_law 1019 = .ok (.invokevirtual 109, 3) := by decide +kernel
theorem dL_law_1022 : decode cL_law 1022 = .ok (.aload_n 2, 1) := by decide +kernel
theorem dL_law_1023 : decode cL_law 1023 = .ok (.aload_n 0, 1) := by decide +kernel
theorem dL_law_1024 : decode cL_law 1024 = .ok (.iload_n 3, 1) := by decide +kernel
theorem dL_law_1025 : decode cL_law 1025 = .ok (.iconst 1, 1) := by decide +kernel
theorem dL_law_1026 : decode cL_law 1026 = .ok (.iadd, 1) := by decide +kernel
theorem dL_law_1027 : decode cL_law 1027 = .ok (.iaload, 1) := by decide +kernel
theorem dL_law_1028 : decode cL_law 1028 = .ok (.aload_n 0, 1) := by decide +kernel
theorem dL_law_1029 : decode cL_law 1029 = .ok (.iload_n 3, 1) := by decide +kernel
theorem dL_law_1030 : decode cL_law 1030 = .ok (.iconst 2, 1) := by decide +kernel
theorem dL_law_1031 : decode cL_law 1031 = .ok (.iadd, 1) := by decide +kernel
theorem dL_law_1032 : decode cL_law 1032 = .ok (.iaload, 1) := by decide +kernel
theorem dL_law_1033 : decode cL_law 1033 = .ok (.invokevirtual 112, 3) := by decide +kernel
theorem dL_law_1036 : decode cL_law 1036 = .ok (.if_icmp .eq 718, 3) := by decide +kernel
theorem dL_law_1041 : decode cL_law 1041 = .ok (.aload_n 1, 1) := by decide +kernel
theorem dL_law_1042 : decode cL_law 1042 = .ok (.aload_n 0, 1) := by decide +kernel
theorem dL_law_1043 : decode cL_law 1043 = .ok (.iload_n 3, 1) := by decide +kernel
theorem dL_law_1044 : decode cL_law 1044 = .ok (.iconst 1, 1) := by decide +kernel
theorem dL_law_1045 : decode cL_law 1045 = .ok (.iadd, 1) := by decide +kernel
theorem dL_law_1046 : decode cL_law 1046 = .ok (.iaload, 1) := by decide +kernel
theorem dL_law_1047 : decode cL_law 1047 = .ok (.aload_n 0, 1) := by decide +kernel
theorem dL_law_1048 : decode cL_law 1048 = .ok (.iload_n 3, 1) := by decide +kernel
theorem dL_law_1049 : decode cL_law 1049 = .ok (.iconst 2, 1) := by decide +kernel
theorem dL_law_1050 : decode cL_law 1050 = .ok (.iadd, 1) := by decide +kernel
theorem dL_law_1051 : decode cL_law 1051 = .ok (.iaload, 1) := by decide +kernel
theorem dL_law_1052 : decode cL_law 1052 = .ok (.invokevirtual 113, 3) := by decide +kernel
theorem dL_law_1055 : decode cL_law 1055 = .ok (.aload_n 2, 1) := by decide +kernel
theorem dL_law_1056 : decode cL_law 1056 = .ok (.aload_n 0, 1) := by decide +kernel
theorem dL_law_1057 : decode cL_law 1057 = .ok (.iload_n 3, 1) := by decide +kernel
theorem dL_law_1058 : decode cL_law 1058 = .ok (.iconst 1, 1) := by decide +kernel
theorem dL_law_1059 : decode cL_law 1059 = .ok (.iadd, 1) := by decide +kernel
theorem dL_law_1060 : decode cL_law 1060 = .ok (.iaload, 1) := by decide +kernel
theorem dL_law_1061 : decode cL_law 1061 = .ok (.aload_n 0, 1) := by decide +kernel
theorem dL_law_1062 : decode cL_law 1062 = .ok (.iload_n 3, 1) := by decide +kernel
theorem dL_law_1063 : decode cL_law 1063 = .ok (.iconst 2, 1) := by decide +kernel
theorem dL_law_1064 : decode cL_law 1064 = .ok (.iadd, 1) := by decide +kernel
theorem dL_law_1065 : decode cL_law 1065 = .ok (.iaload, 1) := by decide +kernel
theorem dL_law_1066 : decode cL_law 1066 = .ok (.invokevirtual 116, 3) := by decide +kernel
theorem dL_law_1069 : decode cL_law 1069 = .ok (.if_icmp .eq 685, 3) := by decide +kernel
theorem dL_law_1074 : decode cL_law 1074 = .ok (.aload_n 1, 1) := by decide +kernel
theorem dL_law_1075 : decode cL_law 1075 = .ok (.aload_n 0, 1) := by decide +kernel
theorem dL_law_1076 : decode cL_law 1076 = .ok (.iload_n 3, 1) := by decide +kernel
theorem dL_law_1077 : decode cL_law 1077 = .ok (.iconst 1, 1) := by decide +kernel
theorem dL_law_1078 : decode cL_law 1078 = .ok (.iadd, 1) := by decide +kernel
theorem dL_law_1079 : decode cL_law 1079 = .ok (.iaload, 1) := by decide +kernel
theorem dL_law_1080 : decode cL_law 1080 = .ok (.invokevirtual 117, 3) := by decide +kernel
theorem dL_law_1083 : decode cL_law 1083 = .ok (.aload_n 2, 1) := by decide +kernel
theorem dL_law_1084 : decode cL_law 1084 = .ok (.aload_n 0, 1) := by decide +kernel
theorem dL_law_1085 : decode cL_law 1085 = .ok (.iload_n 3, 1) := by decide +kernel
theorem dL_law_1086 : decode cL_law 1086 = .ok (.iconst 1, 1) := by decide +kernel
theorem dL_law_1087 : decode cL_law 1087 = .ok (.iadd, 1) := by decide +kernel
theorem dL_law_1088 : decode cL_law 1088 = .ok (.iaload, 1) := by decide +kernel
theorem dL_law_1089 : decode cL_law 1089 = .ok (.invokevirtual 120, 3) := by decide +kernel
theorem dL_law_1092 : decode cL_law 1092 = .ok (.if_icmp .eq 662, 3) := by decide +kernel
theorem dL_law_1097 : decode cL_law 1097 = .ok (.aload_n 1, 1) := by decide +kernel
theorem dL_law_1098 : decode cL_law 1098 = .ok (.aload_n 0, 1) := by decide +kernel
theorem dL_law_1099 : decode cL_law 1099 = .ok (.iload_n 3, 1) := by decide +kernel
theorem dL_law_1100 : decode cL_law 1100 = .ok (.iconst 1, 1) := by decide +kernel
theorem dL_law_1101 : decode cL_law 1101 = .ok (.iadd, 1) := by decide +kernel
theorem dL_law_1102 : decode cL_law 1102 = .ok (.iaload, 1) := by decide +kernel
theorem dL_law_1103 : decode cL_law 1103 = .ok (.invokevirtual 121, 3) := by decide +kernel
theorem dL_law_1106 : decode cL_law 1106 = .ok (.aload_n 2, 1) := by decide +kernel
theorem dL_law_1107 : decode cL_law 1107 = .ok (.aload_n 0, 1) := by decide +kernel
theorem dL_law_1108 : decode cL_law 1108 = .ok (.iload_n 3, 1) := by decide +kernel
theorem dL_law_1109 : decode cL_law 1109 = .ok (.iconst 1, 1) := by decide +kernel
theorem dL_law_1110 : decode cL_law 1110 = .ok (.iadd, 1) := by decide +kernel
theorem dL_law_1111 : decode cL_law 1111 = .ok (.iaload, 1) := by decide +kernel
theorem dL_law_1112 : decode cL_law 1112 = .ok (.invokevirtual 124, 3) := by decide +kernel
theorem dL_law_1115 : decode cL_law 1115 = .ok (.if_icmp .eq 639, 3) := by decide +kernel
theorem dL_law_1120 : decode cL_law 1120 = .ok (.aload_n 1, 1) := by decide +kernel
theorem dL_law_1121 : decode cL_law 1121 = .ok (.aload_n 0, 1) := by decide +kernel
theorem dL_law_1122 : decode cL_law 1122 = .ok (.iload_n 3, 1) := by decide +kernel
theorem dL_law_1123 : decode cL_law 1123 = .ok (.iconst 1, 1) := by decide +kernel
theorem dL_law_1124 : decode cL_law 1124 = .ok (.iadd, 1) := by decide +kernel
theorem dL_law_1125 : decode cL_law 1125 = .ok (.iaload, 1) := by decide +kernel
theorem dL_law_1126 : decode cL_law 1126 = .ok (.aload_n 0, 1) := by decide +kernel
theorem dL_law_1127 : decode cL_law 1127 = .ok (.iload_n 3, 1) := by decide +kernel
theorem dL_law_1128 : decode cL_law 1128 = .ok (.iconst 2, 1) := by decide +kernel
theorem dL_law_1129 : decode cL_law 1129 = .ok (.iadd, 1) := by decide +kernel
theorem dL_law_1130 : decode cL_law 1130 = .ok (.iaload, 1) := by decide +kernel
theorem dL_law_1131 : decode cL_law 1131 = .ok (.invokevirtual 125, 3) := by decide +kernel
theorem dL_law_1134 : decode cL_law 1134 = .ok (.aload_n 2, 1) := by decide +kernel
theorem dL_law_1135 : decode cL_law 1135 = .ok (.aload_n 0, 1) := by decide +kernel
theorem dL_law_1136 : decode cL_law 1136 = .ok (.iload_n 3, 1) := by decide +kernel
theorem dL_law_1137 : decode cL_law 1137 = .ok (.iconst 1, 1) := by decide +kernel
theorem dL_law_1138 : decode cL_law 1138 = .ok (.iadd, 1) := by decide +kernel
theorem dL_law_1139 : decode cL_law 1139 = .ok (.iaload, 1) := by decide +kernel
theorem dL_law_1140 : decode cL_law 1140 = .ok (.aload_n 0, 1) := by decide +kernel
theorem dL_law_1141 : decode cL_law 1141 = .ok (.iload_n 3, 1) := by decide +kernel
theorem dL_law_1142 : decode cL_law 1142 = .ok (.iconst 2, 1) := by decide +kernel
theorem dL_law_1143 : decode cL_law 1143 = .ok (.iadd, 1) := by decide +kernel
theorem dL_law_1144 : decode cL_law 1144 = .ok (.iaload, 1) := by decide +kernel
theorem dL_law_1145 : decode cL_law 1145 = .ok (.invokevirtual 128, 3) := by decide +kernel
theorem dL_law_1148 : decode cL_law 1148 = .ok (.if_icmp .eq 606, 3) := by decide +kernel
theorem dL_law_1153 : decode cL_law 1153 = .ok (.aload_n 1, 1) := by decide +kernel
theorem dL_law_1154 : decode cL_law 1154 = .ok (.aload_n 0, 1) := by decide +kernel
theorem dL_law_1155 : decode cL_law 1155 = .ok (.iload_n 3, 1) := by decide +kernel
theorem dL_law_1156 : decode cL_law 1156 = .ok (.iconst 1, 1) := by decide +kernel
theorem dL_law_1157 : decode cL_law 1157 = .ok (.iadd, 1) := by decide +kernel
theorem dL_law_1158 : decode cL_law 1158 = .ok (.iaload, 1) := by decide +kernel
theorem dL_law_1159 : decode cL_law 1159 = .ok (.invokevirtual 129, 3) := by decide +kernel
theorem dL_law_1162 : decode cL_law 1162 = .ok (.aload_n 2, 1) := by decide +kernel
theorem dL_law_1163 : decode cL_law 1163 = .ok (.aload_n 0, 1) := by decide +kernel
theorem dL_law_1164 : decode cL_law 1164 = .ok (.iload_n 3, 1) := by decide +kernel
theorem dL_law_1165 : decode cL_law 1165 = .ok (.iconst 1, 1) := by decide +kernel
theorem dL_law_1166 : decode cL_law 1166 = .ok (.iadd, 1) := by decide +kernel
theorem dL_law_1167 : decode cL_law 1167 = .ok (.iaload, 1) := by decide +kernel
theorem dL_law_1168 : decode cL_law 1168 = .ok (.invokevirtual 132, 3) := by decide +kernel
theorem dL_law_1171 : decode cL_law 1171 = .ok (.if_icmp .eq 583, 3) := by decide +kernel
theorem dL_law_1176 : decode cL_law 1176 = .ok (.aload_n 1, 1) := by decide +kernel
theorem dL_law_1177 : decode cL_law 1177 = .ok (.invokevirtual 133, 3) := by decide +kernel
theorem dL_law_1180 : decode cL_law 1180 = .ok (.aload_n 2, 1) := by decide +kernel
theorem dL_law_1181 : decode cL_law 1181 = .ok (.invokevirtual 136, 3) := by decide +kernel
theorem dL_law_1184 : decode cL_law 1184 = .ok (.if_icmp .eq 570, 3) := by decide +kernel
theorem dL_law_1189 : decode cL_law 1189 = .ok (.aload_n 1, 1) := by decide +kernel
theorem dL_law_1190 : decode cL_law 1190 = .ok (.aload_n 0, 1) := by decide +kernel
theorem dL_law_1191 : decode cL_law 1191 = .ok (.iload_n 3, 1) := by decide +kernel
theorem dL_law_1192 : decode cL_law 1192 = .ok (.iconst 1, 1) := by decide +kernel
theorem dL_law_1193 : decode cL_law 1193 = .ok (.iadd, 1) := by decide +kernel
theorem dL_law_1194 : decode cL_law 1194 = .ok (.iaload, 1) := by decide +kernel
theorem dL_law_1195 : decode cL_law 1195 = .ok (.invokevirtual 137, 3) := by decide +kernel
theorem dL_law_1198 : decode cL_law 1198 = .ok (.aload_n 2, 1) := by decide +kernel
theorem dL_law_1199 : decode cL_law 1199 = .ok (.aload_n 0, 1) := by decide +kernel
theorem dL_law_1200 : decode cL_law 1200 = .ok (.iload_n 3, 1) := by decide +kernel
theorem dL_law_1201 : decode cL_law 1201 = .ok (.iconst 1, 1) := by decide +kernel
theorem dL_law_1202 : decode cL_law 1202 = .ok (.iadd, 1) := by decide +kernel
theorem dL_law_1203 : decode cL_law 1203 = .ok (.iaload, 1) := by decide +kernel
theorem dL_law_1204 : decode cL_law 1204 = .ok (.invokevirtual 140, 3) := by decide +kernel
theorem dL_law_1207 : decode cL_law 1207 = .ok (.if_icmp .eq 547, 3) := by decide +kernel
theorem dL_law_1212 : decode cL_law 1212 = .ok (.aload_n 1, 1) := by decide +kernel
theorem dL_law_1213 : decode cL_law 1213 = .ok (.aload_n 0, 1) := by decide +kernel
theorem dL_law_1214 : decode cL_law 1214 = .ok (.iload_n 3, 1) := by decide +kernel
theorem dL_law_1215 : decode cL_law 1215 = .ok (.iconst 1, 1) := by decide +kernel
theorem dL_law_1216 : decode cL_law 1216 = .ok (.iadd, 1) := by decide +kernel
theorem dL_law_1217 : decode cL_law 1217 = .ok (.iaload, 1) := by decide +kernel
theorem dL_law_1218 : decode cL_law 1218 = .ok (.invokevirtual 141, 3) := by decide +kernel
theorem dL_law_1221 : decode cL_law 1221 = .ok (.aload_n 2, 1) := by decide +kernel
theorem dL_law_1222 : decode cL_law 1222 = .ok (.aload_n 0, 1) := by decide +kernel
theorem dL_law_1223 : decode cL_law 1223 = .ok (.iload_n 3, 1) := by decide +kernel
theorem dL_law_1224 : decode cL_law 1224 = .ok (.iconst 1, 1) := by decide +kernel
theorem dL_law_1225 : decode cL_law 1225 = .ok (.iadd, 1) := by decide +kernel
theorem dL_law_1226 : decode cL_law 1226 = .ok (.iaload, 1) := by decide +kernel
theorem dL_law_1227 : decode cL_law 1227 = .ok (.invokevirtual 144, 3) := by decide +kernel
theorem dL_law_1230 : decode cL_law 1230 = .ok (.if_icmp .eq 524, 3) := by decide +kernel
theorem dL_law_1235 : decode cL_law 1235 = .ok (.aload_n 1, 1) := by decide +kernel
theorem dL_law_1236 : decode cL_law 1236 = .ok (.aload_n 0, 1) := by decide +kernel
theorem dL_law_1237 : decode cL_law 1237 = .ok (.iload_n 3, 1) := by decide +kernel
theorem dL_law_1238 : decode cL_law 1238 = .ok (.iconst 1, 1) := by decide +kernel
theorem dL_law_1239 : decode cL_law 1239 = .ok (.iadd, 1) := by decide +kernel
theorem dL_law_1240 : decode cL_law 1240 = .ok (.iaload, 1) := by decide +kernel
theorem dL_law_1241 : decode cL_law 1241 = .ok (.aload_n 0, 1) := by decide +kernel
theorem dL_law_1242 : decode cL_law 1242 = .ok (.iload_n 3, 1) := by decide +kernel
theorem dL_law_1243 : decode cL_law 1243 = .ok (.iconst 2, 1) := by decide +kernel
theorem dL_law_1244 : decode cL_law 1244 = .ok (.iadd, 1) := by decide +kernel
theorem dL_law_1245 : decode cL_law 1245 = .ok (.iaload, 1) := by decide +kernel
theorem dL_law_1246 : decode cL_law 1246 = .ok (.invokevirtual 145, 3) := by decide +kernel
theorem dL_law_1249 : decode cL_law 1249 = .ok (.aload_n 2, 1) := by decide +kernel
theorem dL_law_1250 : decode cL_law 1250 = .ok (.aload_n 0, 1) := by decide +kernel
theorem dL_law_1251 : decode cL_law 1251 = .ok (.iload_n 3, 1) := by decide +kernel
theorem dL_law_1252 : decode cL_law 1252 = .ok (.iconst 1, 1) := by decide +kernel
theorem dL_law_1253 : decode cL_law 1253 = .ok (.iadd, 1) := by decide +kernel
theorem dL_law_1254 : decode cL_law 1254 = .ok (.iaload, 1) := by decide +kernel
theorem dL_law_1255 : decode cL_law 1255 = .ok (.aload_n 0, 1) := by decide +kernel
theorem dL_law_1256 : decode cL_law 1256 = .ok (.iload_n 3, 1) := by decide +kernel
theorem dL_law_1257 : decode cL_law 1257 = .ok (.iconst 2, 1) := by decide +kernel
theorem dL_law_1258 : decode cL_law 1258 = .ok (.iadd, 1) := by decide +kernel
theorem dL_law_1259 : decode cL_law 1259 = .ok (.iaload, 1) := by decide +kernel
theorem dL_law_1260 : decode cL_law 1260 = .ok (.invokevirtual 149, 3) := by decide +kernel
theorem dL_law_1263 : decode cL_law 1263 = .ok (.if_icmp .eq 491, 3) := by decide +kernel
theorem dL_law_1268 : decode cL_law 1268 = .ok (.aload_n 1, 1) := by decide +kernel
theorem dL_law_1269 : decode cL_law 1269 = .ok (.invokevirtual 150, 3) := by decide +kernel
theorem dL_law_1272 : decode cL_law 1272 = .ok (.aload_n 2, 1) := by decide +kernel
theorem dL_law_1273 : decode cL_law 1273 = .ok (.invokevirtual 153, 3) := by decide +kernel
theorem dL_law_1276 : decode cL_law 1276 = .ok (.if_icmp .eq 478, 3) := by decide +kernel
theorem dL_law_1281 : decode cL_law 1281 = .ok (.aload_n 1, 1) := by decide +kernel
theorem dL_law_1282 : decode cL_law 1282 = .ok (.aload_n 0, 1) := by decide +kernel
theorem dL_law_1283 : decode cL_law 1283 = .ok (.iload_n 3, 1) := by decide +kernel
theorem dL_law_1284 : decode cL_law 1284 = .ok (.iconst 1, 1) := by decide +kernel
theorem dL_law_1285 : decode cL_law 1285 = .ok (.iadd, 1) := by decide +kernel
theorem dL_law_1286 : decode cL_law 1286 = .ok (.iaload, 1) := by decide +kernel
theorem dL_law_1287 : decode cL_law 1287 = .ok (.aload_n 0, 1) := by decide +kernel
theorem dL_law_1288 : decode cL_law 1288 = .ok (.iload_n 3, 1) := by decide +kernel
theorem dL_law_1289 : decode cL_law 1289 = .ok (.iconst 2, 1) := by decide +kernel
theorem dL_law_1290 : decode cL_law 1290 = .ok (.iadd, 1) := by decide +kernel
theorem dL_law_1291 : decode cL_law 1291 = .ok (.iaload, 1) := by decide +kernel
theorem dL_law_1292 : decode cL_law 1292 = .ok (.invokevirtual 154, 3) := by decide +kernel
theorem dL_law_1295 : decode cL_law 1295 = .ok (.aload_n 2, 1) := by decide +kernel
theorem dL_law_1296 : decode cL_law 1296 = .ok (.aload_n 0, 1) := by decide +kernel
theorem dL_law_1297 : decode cL_law 1297 = .ok (.iload_n 3, 1) := by decide +kernel
theorem dL_law_1298 : decode cL_law 1298 = .ok (.iconst 1, 1) := by decide +kernel
theorem dL_law_1299 : decode cL_law 1299 = .ok (.iadd, 1) := by decide +kernel
theorem dL_law_1300 : decode cL_law 1300 = .ok (.iaload, 1) := by decide +kernel
theorem dL_law_1301 : decode cL_law 1301 = .ok (.aload_n 0, 1) := by decide +kernel
theorem dL_law_1302 : decode cL_law 1302 = .ok (.iload_n 3, 1) := by decide +kernel
theorem dL_law_1303 : decode cL_law 1303 = .ok (.iconst 2, 1) := by decide +kernel
theorem dL_law_1304 : decode cL_law 1304 = .ok (.iadd, 1) := by decide +kernel
theorem dL_law_1305 : decode cL_law 1305 = .ok (.iaload, 1) := by decide +kernel
theorem dL_law_1306 : decode cL_law 1306 = .ok (.invokevirtual 157, 3) := by decide +kernel
theorem dL_law_1309 : decode cL_law 1309 = .ok (.if_icmp .eq 445, 3) := by decide +kernel
theorem dL_law_1314 : decode cL_law 1314 = .ok (.aload_n 1, 1) := by decide +kernel
theorem dL_law_1315 : decode cL_law 1315 = .ok (.aload_n 0, 1) := by decide +kernel
theorem dL_law_1316 : decode cL_law 1316 = .ok (.iload_n 3, 1) := by decide +kernel
theorem dL_law_1317 : decode cL_law 1317 = .ok (.iconst 1, 1) := by decide +kernel
theorem dL_law_1318 : decode cL_law 1318 = .ok (.iadd, 1) := by decide +kernel
theorem dL_law_1319 : decode cL_law 1319 = .ok (.iaload, 1) := by decide +kernel
theorem dL_law_1320 : decode cL_law 1320 = .ok (.aload_n 0, 1) := by decide +kernel
theorem dL_law_1321 : decode cL_law 1321 = .ok (.iload_n 3, 1) := by decide +kernel
theorem dL_law_1322 : decode cL_law 1322 = .ok (.iconst 2, 1) := by decide +kernel
theorem dL_law_1323 : decode cL_law 1323 = .ok (.iadd, 1) := by decide +kernel
theorem dL_law_1324 : decode cL_law 1324 = .ok (.iaload, 1) := by decide +kernel
theorem dL_law_1325 : decode cL_law 1325 = .ok (.aload_n 0, 1) := by decide +kernel
theorem dL_law_1326 : decode cL_law 1326 = .ok (.iload_n 3, 1) := by decide +kernel
theorem dL_law_1327 : decode cL_law 1327 = .ok (.iconst 3, 1) := by decide +kernel
theorem dL_law_1328 : decode cL_law 1328 = .ok (.iadd, 1) := by decide +kernel
theorem dL_law_1329 : decode cL_law 1329 = .ok (.iaload, 1) := by decide +kernel
theorem dL_law_1330 : decode cL_law 1330 = .ok (.invokevirtual 158, 3) := by decide +kernel
theorem dL_law_1333 : decode cL_law 1333 = .ok (.aload_n 2, 1) := by decide +kernel
theorem dL_law_1334 : decode cL_law 1334 = .ok (.aload_n 0, 1) := by decide +kernel
theorem dL_law_1335 : decode cL_law 1335 = .ok (.iload_n 3, 1) := by decide +kernel
theorem dL_law_1336 : decode cL_law 1336 = .ok (.iconst 1, 1) := by decide +kernel
theorem dL_law_1337 : decode cL_law 1337 = .ok (.iadd, 1) := by decide +kernel
theorem dL_law_1338 : decode cL_law 1338 = .ok (.iaload, 1) := by decide +kernel
theorem dL_law_1339 : decode cL_law 1339 = .ok (.aload_n 0, 1) := by decide +kernel
theorem dL_law_1340 : decode cL_law 1340 = .ok (.iload_n 3, 1) := by decide +kernel
theorem dL_law_1341 : decode cL_law 1341 = .ok (.iconst 2, 1) := by decide +kernel
theorem dL_law_1342 : decode cL_law 1342 = .ok (.iadd, 1) := by decide +kernel
theorem dL_law_1343 : decode cL_law 1343 = .ok (.iaload, 1) := by decide +kernel
theorem dL_law_1344 : decode cL_law 1344 = .ok (.aload_n 0, 1) := by decide +kernel
theorem dL_law_1345 : decode cL_law 1345 = .ok (.iload_n 3, 1) := by decide +kernel
theorem dL_law_1346 : decode cL_law 1346 = .ok (.iconst 3, 1) := by decide +kernel
theorem dL_law_1347 : decode cL_law 1347 = .ok (.iadd, 1) := by decide +kernel
theorem dL_law_1348 : decode cL_law 1348 = .ok (.iaload, 1) := by decide +kernel
theorem dL_law_1349 : decode cL_law 1349 = .ok (.invokevirtual 161, 3) := by decide +kernel
theorem dL_law_1352 : decode cL_law 1352 = .ok (.if_icmp .eq 402, 3) := by decide +kernel
theorem dL_law_1357 : decode cL_law 1357 = .ok (.aload_n 1, 1) := by decide +kernel
theorem dL_law_1358 : decode cL_law 1358 = .ok (.aload_n 0, 1) := by decide +kernel
theorem dL_law_1359 : decode cL_law 1359 = .ok (.iload_n 3, 1) := by decide +kernel
theorem dL_law_1360 : decode cL_law 1360 = .ok (.iconst 1, 1) := by decide +kernel
theorem dL_law_1361 : decode cL_law 1361 = .ok (.iadd, 1) := by decide +kernel
theorem dL_law_1362 : decode cL_law 1362 = .ok (.iaload, 1) := by decide +kernel
theorem dL_law_1363 : decode cL_law 1363 = .ok (.invokevirtual 162, 3) := by decide +kernel
theorem dL_law_1366 : decode cL_law 1366 = .ok (.aload_n 2, 1) := by decide +kernel
theorem dL_law_1367 : decode cL_law 1367 = .ok (.aload_n 0, 1) := by decide +kernel
theorem dL_law_1368 : decode cL_law 1368 = .ok (.iload_n 3, 1) := by decide +kernel
theorem dL_law_1369 : decode cL_law 1369 = .ok (.iconst 1, 1) := by decide +kernel
theorem dL_law_1370 : decode cL_law 1370 = .ok (.iadd, 1) := by decide +kernel
theorem dL_law_1371 : decode cL_law 1371 = .ok (.iaload, 1) := by decide +kernel
theorem dL_law_1372 : decode cL_law 1372 = .ok (.invokevirtual 165, 3) := by decide +kernel
theorem dL_law_1375 : decode cL_law 1375 = .ok (.if_icmp .eq 379, 3) := by decide +kernel
theorem dL_law_1380 : decode cL_law 1380 = .ok (.aload_n 1, 1) := by decide +kernel
theorem dL_law_1381 : decode cL_law 1381 = .ok (.aload_n 0, 1) := by decide +kernel
theorem dL_law_1382 : decode cL_law 1382 = .ok (.iload_n 3, 1) := by decide +kernel
theorem dL_law_1383 : decode cL_law 1383 = .ok (.iconst 1, 1) := by decide +kernel
theorem dL_law_1384 : decode cL_law 1384 = .ok (.iadd, 1) := by decide +kernel
theorem dL_law_1385 : decode cL_law 1385 = .ok (.iaload, 1) := by decide +kernel
theorem dL_law_1386 : decode cL_law 1386 = .ok (.aload_n 0, 1) := by decide +kernel
theorem dL_law_1387 : decode cL_law 1387 = .ok (.iload_n 3, 1) := by decide +kernel
theorem dL_law_1388 : decode cL_law 1388 = .ok (.iconst 2, 1) := by decide +kernel
theorem dL_law_1389 : decode cL_law 1389 = .ok (.iadd, 1) := by decide +kernel
theorem dL_law_1390 : decode cL_law 1390 = .ok (.iaload, 1) := by decide +kernel
theorem dL_law_1391 : decode cL_law 1391 = .ok (.aload_n 0, 1) := by decide +kernel
theorem dL_law_1392 : decode cL_law 1392 = .ok (.iload_n 3, 1) := by decide +kernel
theorem dL_law_1393 : decode cL_law 1393 = .ok (.iconst 3, 1) := by decide +kernel
theorem dL_law_1394 : decode cL_law 1394 = .ok (.iadd, 1) := by decide +kernel
theorem dL_law_1395 : decode cL_law 1395 = .ok (.iaload, 1) := by decide +kernel
theorem dL_law_1396 : decode cL_law 1396 = .ok (.invokevirtual 166, 3) := by decide +kernel
theorem dL_law_1399 : decode cL_law 1399 = .ok (.aload_n 2, 1) := by decide +kernel
theorem dL_law_1400 : decode cL_law 1400 = .ok (.aload_n 0, 1) := by decide +kernel
theorem dL_law_1401 : decode cL_law 1401 = .ok (.iload_n 3, 1) := by decide +kernel
theorem dL_law_1402 : decode cL_law 1402 = .ok (.iconst 1, 1) := by decide +kernel
theorem dL_law_1403 : decode cL_law 1403 = .ok (.iadd, 1) := by decide +kernel
theorem dL_law_1404 : decode cL_law 1404 = .ok (.iaload, 1) := by decide +kernel
theorem dL_law_1405 : decode cL_law 1405 = .ok (.aload_n 0, 1) := by decide +kernel
theorem dL_law_1406 : decode cL_law 1406 = .ok (.iload_n 3, 1) := by decide +kernel
theorem dL_law_1407 : decode cL_law 1407 = .ok (.iconst 2, 1) := by decide +kernel
theorem dL_law_1408 : decode cL_law 1408 = .ok (.iadd, 1) := by decide +kernel
theorem dL_law_1409 : decode cL_law 1409 = .ok (.iaload, 1) := by decide +kernel
theorem dL_law_1410 : decode cL_law 1410 = .ok (.aload_n 0, 1) := by decide +kernel
theorem dL_law_1411 : decode cL_law 1411 = .ok (.iload_n 3, 1) := by decide +kernel
theorem dL_law_1412 : decode cL_law 1412 = .ok (.iconst 3, 1) := by decide +kernel
theorem dL_law_1413 : decode cL_law 1413 = .ok (.iadd, 1) := by decide +kernel
theorem dL_law_1414 : decode cL_law 1414 = .ok (.iaload, 1) := by decide +kernel
theorem dL_law_1415 : decode cL_law 1415 = .ok (.invokevirtual 169, 3) := by decide +kernel
theorem dL_law_1418 : decode cL_law 1418 = .ok (.if_icmp .eq 336, 3) := by decide +kernel
theorem dL_law_1423 : decode cL_law 1423 = .ok (.aload_n 1, 1) := by decide +kernel
theorem dL_law_1424 : decode cL_law 1424 = .ok (.aload_n 0, 1) := by decide +kernel
theorem dL_law_1425 : decode cL_law 1425 = .ok (.iload_n 3, 1) := by decide +kernel
theorem dL_law_1426 : decode cL_law 1426 = .ok (.iconst 1, 1) := by decide +kernel
theorem dL_law_1427 : decode cL_law 1427 = .ok (.iadd, 1) := by decide +kernel
theorem dL_law_1428 : decode cL_law 1428 = .ok (.iaload, 1) := by decide +kernel
theorem dL_law_1429 : decode cL_law 1429 = .ok (.aload_n 0, 1) := by decide +kernel
theorem dL_law_1430 : decode cL_law 1430 = .ok (.iload_n 3, 1) := by decide +kernel
theorem dL_law_1431 : decode cL_law 1431 = .ok (.iconst 2, 1) := by decide +kernel
theorem dL_law_1432 : decode cL_law 1432 = .ok (.iadd, 1) := by decide +kernel
theorem dL_law_1433 : decode cL_law 1433 = .ok (.iaload, 1) := by decide +kernel
theorem dL_law_1434 : decode cL_law 1434 = .ok (.invokevirtual 170, 3) := by decide +kernel
theorem dL_law_1437 : decode cL_law 1437 = .ok (.aload_n 2, 1) := by decide +kernel
theorem dL_law_1438 : decode cL_law 1438 = .ok (.aload_n 0, 1) := by decide +kernel
theorem dL_law_1439 : decode cL_law 1439 = .ok (.iload_n 3, 1) := by decide +kernel
theorem dL_law_1440 : decode cL_law 1440 = .ok (.iconst 1, 1) := by decide +kernel
theorem dL_law_1441 : decode cL_law 1441 = .ok (.iadd, 1) := by decide +kernel
theorem dL_law_1442 : decode cL_law 1442 = .ok (.iaload, 1) := by decide +kernel
theorem dL_law_1443 : decode cL_law 1443 = .ok (.aload_n 0, 1) := by decide +kernel
theorem dL_law_1444 : decode cL_law 1444 = .ok (.iload_n 3, 1) := by decide +kernel
theorem dL_law_1445 : decode cL_law 1445 = .ok (.iconst 2, 1) := by decide +kernel
theorem dL_law_1446 : decode cL_law 1446 = .ok (.iadd, 1) := by decide +kernel
theorem dL_law_1447 : decode cL_law 1447 = .ok (.iaload, 1) := by decide +kernel
theorem dL_law_1448 : decode cL_law 1448 = .ok (.invokevirtual 173, 3) := by decide +kernel
theorem dL_law_1451 : decode cL_law 1451 = .ok (.if_icmp .eq 303, 3) := by decide +kernel
theorem dL_law_1456 : decode cL_law 1456 = .ok (.aload_n 1, 1) := by decide +kernel
theorem dL_law_1457 : decode cL_law 1457 = .ok (.aload_n 0, 1) := by decide +kernel
theorem dL_law_1458 : decode cL_law 1458 = .ok (.iload_n 3, 1) := by decide +kernel
theorem dL_law_1459 : decode cL_law 1459 = .ok (.iconst 1, 1) := by decide +kernel
theorem dL_law_1460 : decode cL_law 1460 = .ok (.iadd, 1) := by decide +kernel
theorem dL_law_1461 : decode cL_law 1461 = .ok (.iaload, 1) := by decide +kernel
theorem dL_law_1462 : decode cL_law 1462 = .ok (.aload_n 0, 1) := by decide +kernel
theorem dL_law_1463 : decode cL_law 1463 = .ok (.iload_n 3, 1) := by decide +kernel
theorem dL_law_1464 : decode cL_law 1464 = .ok (.iconst 2, 1) := by decide +kernel
theorem dL_law_1465 : decode cL_law 1465 = .ok (.iadd, 1) := by decide +kernel
theorem dL_law_1466 : decode cL_law 1466 = .ok (.iaload, 1) := by decide +kernel
theorem dL_law_1467 : decode cL_law 1467 = .ok (.invokevirtual 174, 3) := by decide +kernel
theorem dL_law_1470 : decode cL_law 1470 = .ok (.aload_n 2, 1) := by decide +kernel
theorem dL_law_1471 : decode cL_law 1471 = .ok (.aload_n 0, 1) := by decide +kernel
theorem dL_law_1472 : decode cL_law 1472 = .ok (.iload_n 3, 1) := by decide +kernel
theorem dL_law_1473 : decode cL_law 1473 = .ok (.iconst 1, 1) := by decide +kernel
theorem dL_law_1474 : decode cL_law 1474 = .ok (.iadd, 1) := by decide +kernel
theorem dL_law_1475 : decode cL_law 1475 = .ok (.iaload, 1) := by decide +kernel
theorem dL_law_1476 : decode cL_law 1476 = .ok (.aload_n 0, 1) := by decide +kernel
theorem dL_law_1477 : decode cL_law 1477 = .ok (.iload_n 3, 1) := by decide +kernel
theorem dL_law_1478 : decode cL_law 1478 = .ok (.iconst 2, 1) := by decide +kernel
theorem dL_law_1479 : decode cL_law 1479 = .ok (.iadd, 1) := by decide +kernel
theorem dL_law_1480 : decode cL_law 1480 = .ok (.iaload, 1) := by decide +kernel
theorem dL_law_1481 : decode cL_law 1481 = .ok (.invokevirtual 177, 3) := by decide +kernel
theorem dL_law_1484 : decode cL_law 1484 = .ok (.lcmp, 1) := by decide +kernel
theorem dL_law_1485 : decode cL_law 1485 = .ok (.ifCond .eq 269, 3) := by decide +kernel
theorem dL_law_1490 : decode cL_law 1490 = .ok (.aload_n 1, 1) := by decide +kernel
theorem dL_law_1491 : decode cL_law 1491 = .ok (.aload_n 0, 1) := by decide +kernel
theorem dL_law_1492 : decode cL_law 1492 = .ok (.iload_n 3, 1) := by decide +kernel
theorem dL_law_1493 : decode cL_law 1493 = .ok (.iconst 1, 1) := by decide +kernel
theorem dL_law_1494 : decode cL_law 1494 = .ok (.iadd, 1) := by decide +kernel
theorem dL_law_1495 : decode cL_law 1495 = .ok (.iaload, 1) := by decide +kernel
theorem dL_law_1496 : decode cL_law 1496 = .ok (.aload_n 0, 1) := by decide +kernel
theorem dL_law_1497 : decode cL_law 1497 = .ok (.iload_n 3, 1) := by decide +kernel
theorem dL_law_1498 : decode cL_law 1498 = .ok (.iconst 2, 1) := by decide +kernel
theorem dL_law_1499 : decode cL_law 1499 = .ok (.iadd, 1) := by decide +kernel
theorem dL_law_1500 : decode cL_law 1500 = .ok (.iaload, 1) := by decide +kernel
theorem dL_law_1501 : decode cL_law 1501 = .ok (.aload_n 0, 1) := by decide +kernel
theorem dL_law_1502 : decode cL_law 1502 = .ok (.iload_n 3, 1) := by decide +kernel
theorem dL_law_1503 : decode cL_law 1503 = .ok (.iconst 3, 1) := by decide +kernel
theorem dL_law_1504 : decode cL_law 1504 = .ok (.iadd, 1) := by decide +kernel
theorem dL_law_1505 : decode cL_law 1505 = .ok (.iaload, 1) := by decide +kernel
theorem dL_law_1506 : decode cL_law 1506 = .ok (.invokevirtual 178, 3) := by decide +kernel
theorem dL_law_1509 : decode cL_law 1509 = .ok (.aload_n 2, 1) := by decide +kernel
theorem dL_law_1510 : decode cL_law 1510 = .ok (.aload_n 0, 1) := by decide +kernel
theorem dL_law_1511 : decode cL_law 1511 = .ok (.iload_n 3, 1) := by decide +kernel
theorem dL_law_1512 : decode cL_law 1512 = .ok (.iconst 1, 1) := by decide +kernel
theorem dL_law_1513 : decode cL_law 1513 = .ok (.iadd, 1) := by decide +kernel
theorem dL_law_1514 : decode cL_law 1514 = .ok (.iaload, 1) := by decide +kernel
theorem dL_law_1515 : decode cL_law 1515 = .ok (.aload_n 0, 1) := by decide +kernel
theorem dL_law_1516 : decode cL_law 1516 = .ok (.iload_n 3, 1) := by decide +kernel
theorem dL_law_1517 : decode cL_law 1517 = .ok (.iconst 2, 1) := by decide +kernel
theorem dL_law_1518 : decode cL_law 1518 = .ok (.iadd, 1) := by decide +kernel
theorem dL_law_1519 : decode cL_law 1519 = .ok (.iaload, 1) := by decide +kernel
theorem dL_law_1520 : decode cL_law 1520 = .ok (.aload_n 0, 1) := by decide +kernel
theorem dL_law_1521 : decode cL_law 1521 = .ok (.iload_n 3, 1) := by decide +kernel
theorem dL_law_1522 : decode cL_law 1522 = .ok (.iconst 3, 1) := by decide +kernel
theorem dL_law_1523 : decode cL_law 1523 = .ok (.iadd, 1) := by decide +kernel
theorem dL_law_1524 : decode cL_law 1524 = .ok (.iaload, 1) := by decide +kernel
theorem dL_law_1525 : decode cL_law 1525 = .ok (.invokevirtual 181, 3) := by decide +kernel
theorem dL_law_1528 : decode cL_law 1528 = .ok (.if_icmp .eq 226, 3) := by decide +kernel
theorem dL_law_1533 : decode cL_law 1533 = .ok (.aload_n 1, 1) := by decide +kernel
theorem dL_law_1534 : decode cL_law 1534 = .ok (.aload_n 0, 1) := by decide +kernel
theorem dL_law_1535 : decode cL_law 1535 = .ok (.iload_n 3, 1) := by decide +kernel
theorem dL_law_1536 : decode cL_law 1536 = .ok (.iconst 1, 1) := by decide +kernel
theorem dL_law_1537 : decode cL_law 1537 = .ok (.iadd, 1) := by decide +kernel
theorem dL_law_1538 : decode cL_law 1538 = .ok (.iaload, 1) := by decide +kernel
theorem dL_law_1539 : decode cL_law 1539 = .ok (.aload_n 0, 1) := by decide +kernel
theorem dL_law_1540 : decode cL_law 1540 = .ok (.iload_n 3, 1) := by decide +kernel
theorem dL_law_1541 : decode cL_law 1541 = .ok (.iconst 2, 1) := by decide +kernel
theorem dL_law_1542 : decode cL_law 1542 = .ok (.iadd, 1) := by decide +kernel
theorem dL_law_1543 : decode cL_law 1543 = .ok (.iaload, 1) := by decide +kernel
theorem dL_law_1544 : decode cL_law 1544 = .ok (.aload_n 0, 1) := by decide +kernel
theorem dL_law_1545 : decode cL_law 1545 = .ok (.iload_n 3, 1) := by decide +kernel
theorem dL_law_1546 : decode cL_law 1546 = .ok (.iconst 3, 1) := by decide +kernel
theorem dL_law_1547 : decode cL_law 1547 = .ok (.iadd, 1) := by decide +kernel
theorem dL_law_1548 : decode cL_law 1548 = .ok (.iaload, 1) := by decide +kernel
theorem dL_law_1549 : decode cL_law 1549 = .ok (.aload_n 0, 1) := by decide +kernel
theorem dL_law_1550 : decode cL_law 1550 = .ok (.iload_n 3, 1) := by decide +kernel
theorem dL_law_1551 : decode cL_law 1551 = .ok (.iconst 4, 1) := by decide +kernel
theorem dL_law_1552 : decode cL_law 1552 = .ok (.iadd, 1) := by decide +kernel
theorem dL_law_1553 : decode cL_law 1553 = .ok (.iaload, 1) := by decide +kernel
theorem dL_law_1554 : decode cL_law 1554 = .ok (.aload_n 0, 1) := by decide +kernel
theorem dL_law_1555 : decode cL_law 1555 = .ok (.iload_n 3, 1) := by decide +kernel
theorem dL_law_1556 : decode cL_law 1556 = .ok (.iconst 5, 1) := by decide +kernel
theorem dL_law_1557 : decode cL_law 1557 = .ok (.iadd, 1) := by decide +kernel
theorem dL_law_1558 : decode cL_law 1558 = .ok (.iaload, 1) := by decide +kernel
theorem dL_law_1559 : decode cL_law 1559 = .ok (.invokevirtual 182, 3) := by decide +kernel
theorem dL_law_1562 : decode cL_law 1562 = .ok (.aload_n 2, 1) := by decide +kernel
theorem dL_law_1563 : decode cL_law 1563 = .ok (.aload_n 0, 1) := by decide +kernel
theorem dL_law_1564 : decode cL_law 1564 = .ok (.iload_n 3, 1) := by decide +kernel
theorem dL_law_1565 : decode cL_law 1565 = .ok (.iconst 1, 1) := by decide +kernel
theorem dL_law_1566 : decode cL_law 1566 = .ok (.iadd, 1) := by decide +kernel
theorem dL_law_1567 : decode cL_law 1567 = .ok (.iaload, 1) := by decide +kernel
theorem dL_law_1568 : decode cL_law 1568 = .ok (.aload_n 0, 1) := by decide +kernel
theorem dL_law_1569 : decode cL_law 1569 = .ok (.iload_n 3, 1) := by decide +kernel
theorem dL_law_1570 : decode cL_law 1570 = .ok (.iconst 2, 1) := by decide +kernel
theorem dL_law_1571 : decode cL_law 1571 = .ok (.iadd, 1) := by decide +kernel
theorem dL_law_1572 : decode cL_law 1572 = .ok (.iaload, 1) := by decide +kernel
theorem dL_law_1573 : decode cL_law 1573 = .ok (.aload_n 0, 1) := by decide +kernel
theorem dL_law_1574 : decode cL_law 1574 = .ok (.iload_n 3, 1) := by decide +kernel
theorem dL_law_1575 : decode cL_law 1575 = .ok (.iconst 3, 1) := by decide +kernel
theorem dL_law_1576 : decode cL_law 1576 = .ok (.iadd, 1) := by decide +kernel
theorem dL_law_1577 : decode cL_law 1577 = .ok (.iaload, 1) := by decide +kernel
theorem dL_law_1578 : decode cL_law 1578 = .ok (.aload_n 0, 1) := by decide +kernel
theorem dL_law_1579 : decode cL_law 1579 = .ok (.iload_n 3, 1) := by decide +kernel
theorem dL_law_1580 : decode cL_law 1580 = .ok (.iconst 4, 1) := by decide +kernel
theorem dL_law_1581 : decode cL_law 1581 = .ok (.iadd, 1) := by decide +kernel
theorem dL_law_1582 : decode cL_law 1582 = .ok (.iaload, 1) := by decide +kernel
theorem dL_law_1583 : decode cL_law 1583 = .ok (.aload_n 0, 1) := by decide +kernel
theorem dL_law_1584 : decode cL_law 1584 = .ok (.iload_n 3, 1) := by decide +kernel
theorem dL_law_1585 : decode cL_law 1585 = .ok (.iconst 5, 1) := by decide +kernel
theorem dL_law_1586 : decode cL_law 1586 = .ok (.iadd, 1) := by decide +kernel
theorem dL_law_1587 : decode cL_law 1587 = .ok (.iaload, 1) := by decide +kernel
theorem dL_law_1588 : decode cL_law 1588 = .ok (.invokevirtual 185, 3) := by decide +kernel
theorem dL_law_1591 : decode cL_law 1591 = .ok (.if_icmp .eq 163, 3) := by decide +kernel
theorem dL_law_1596 : decode cL_law 1596 = .ok (.aload_n 1, 1) := by decide +kernel
theorem dL_law_1597 : decode cL_law 1597 = .ok (.aload_n 0, 1) := by decide +kernel
theorem dL_law_1598 : decode cL_law 1598 = .ok (.iload_n 3, 1) := by decide +kernel
theorem dL_law_1599 : decode cL_law 1599 = .ok (.iconst 1, 1) := by decide +kernel
theorem dL_law_1600 : decode cL_law 1600 = .ok (.iadd, 1) := by decide +kernel
theorem dL_law_1601 : decode cL_law 1601 = .ok (.iaload, 1) := by decide +kernel
theorem dL_law_1602 : decode cL_law 1602 = .ok (.aload_n 0, 1) := by decide +kernel
theorem dL_law_1603 : decode cL_law 1603 = .ok (.iload_n 3, 1) := by decide +kernel
theorem dL_law_1604 : decode cL_law 1604 = .ok (.iconst 2, 1) := by decide +kernel
theorem dL_law_1605 : decode cL_law 1605 = .ok (.iadd, 1) := by decide +kernel
theorem dL_law_1606 : decode cL_law 1606 = .ok (.iaload, 1) := by decide +kernel
theorem dL_law_1607 : decode cL_law 1607 = .ok (.aload_n 0, 1) := by decide +kernel
theorem dL_law_1608 : decode cL_law 1608 = .ok (.iload_n 3, 1) := by decide +kernel
theorem dL_law_1609 : decode cL_law 1609 = .ok (.iconst 3, 1) := by decide +kernel
theorem dL_law_1610 : decode cL_law 1610 = .ok (.iadd, 1) := by decide +kernel
theorem dL_law_1611 : decode cL_law 1611 = .ok (.iaload, 1) := by decide +kernel
theorem dL_law_1612 : decode cL_law 1612 = .ok (.invokevirtual 186, 3) := by decide +kernel
theorem dL_law_1615 : decode cL_law 1615 = .ok (.aload_n 2, 1) := by decide +kernel
theorem dL_law_1616 : decode cL_law 1616 = .ok (.aload_n 0, 1) := by decide +kernel
theorem dL_law_1617 : decode cL_law 1617 = .ok (.iload_n 3, 1) := by decide +kernel
theorem dL_law_1618 : decode cL_law 1618 = .ok (.iconst 1, 1) := by decide +kernel
theorem dL_law_1619 : decode cL_law 1619 = .ok (.iadd, 1) := by decide +kernel
theorem dL_law_1620 : decode cL_law 1620 = .ok (.iaload, 1) := by decide +kernel
theorem dL_law_1621 : decode cL_law 1621 = .ok (.aload_n 0, 1) := by decide +kernel
theorem dL_law_1622 : decode cL_law 1622 = .ok (.iload_n 3, 1) := by decide +kernel
theorem dL_law_1623 : decode cL_law 1623 = .ok (.iconst 2, 1) := by decide +kernel
theorem dL_law_1624 : decode cL_law 1624 = .ok (.iadd, 1) := by decide +kernel
theorem dL_law_1625 : decode cL_law 1625 = .ok (.iaload, 1) := by decide +kernel
theorem dL_law_1626 : decode cL_law 1626 = .ok (.aload_n 0, 1) := by decide +kernel
theorem dL_law_1627 : decode cL_law 1627 = .ok (.iload_n 3, 1) := by decide +kernel
theorem dL_law_1628 : decode cL_law 1628 = .ok (.iconst 3, 1) := by decide +kernel
theorem dL_law_1629 : decode cL_law 1629 = .ok (.iadd, 1) := by decide +kernel
theorem dL_law_1630 : decode cL_law 1630 = .ok (.iaload, 1) := by decide +kernel
theorem dL_law_1631 : decode cL_law 1631 = .ok (.invokevirtual 189, 3) := by decide +kernel
theorem dL_law_1634 : decode cL_law 1634 = .ok (.if_icmp .eq 120, 3) := by decide +kernel
theorem dL_law_1639 : decode cL_law 1639 = .ok (.aload_n 1, 1) := by decide +kernel
theorem dL_law_1640 : decode cL_law 1640 = .ok (.aload_n 0, 1) := by decide +kernel
theorem dL_law_1641 : decode cL_law 1641 = .ok (.iload_n 3, 1) := by decide +kernel
theorem dL_law_1642 : decode cL_law 1642 = .ok (.iconst 1, 1) := by decide +kernel
theorem dL_law_1643 : decode cL_law 1643 = .ok (.iadd, 1) := by decide +kernel
theorem dL_law_1644 : decode cL_law 1644 = .ok (.iaload, 1) := by decide +kernel
theorem dL_law_1645 : decode cL_law 1645 = .ok (.invokevirtual 190, 3) := by decide +kernel
theorem dL_law_1648 : decode cL_law 1648 = .ok (.aload_n 2, 1) := by decide +kernel
theorem dL_law_1649 : decode cL_law 1649 = .ok (.aload_n 0, 1) := by decide +kernel
theorem dL_law_1650 : decode cL_law 1650 = .ok (.iload_n 3, 1) := by decide +kernel
theorem dL_law_1651 : decode cL_law 1651 = .ok (.iconst 1, 1) := by decide +kernel
theorem dL_law_1652 : decode cL_law 1652 = .ok (.iadd, 1) := by decide +kernel
theorem dL_law_1653 : decode cL_law 1653 = .ok (.iaload, 1) := by decide +kernel
theorem dL_law_1654 : decode cL_law 1654 = .ok (.invokevirtual 193, 3) := by decide +kernel
theorem dL_law_1657 : decode cL_law 1657 = .ok (.if_icmp .eq 97, 3) := by decide +kernel
theorem dL_law_1662 : decode cL_law 1662 = .ok (.aload_n 1, 1) := by decide +kernel
theorem dL_law_1663 : decode cL_law 1663 = .ok (.aload_n 0, 1) := by decide +kernel
theorem dL_law_1664 : decode cL_law 1664 = .ok (.iload_n 3, 1) := by decide +kernel
theorem dL_law_1665 : decode cL_law 1665 = .ok (.iconst 1, 1) := by decide +kernel
theorem dL_law_1666 : decode cL_law 1666 = .ok (.iadd, 1) := by decide +kernel
theorem dL_law_1667 : decode cL_law 1667 = .ok (.iaload, 1) := by decide +kernel
theorem dL_law_1668 : decode cL_law 1668 = .ok (.invokevirtual 194, 3) := by decide +kernel
theorem dL_law_1671 : decode cL_law 1671 = .ok (.aload_n 2, 1) := by decide +kernel
theorem dL_law_1672 : decode cL_law 1672 = .ok (.aload_n 0, 1) := by decide +kernel
theorem dL_law_1673 : decode cL_law 1673 = .ok (.iload_n 3, 1) := by decide +kernel
theorem dL_law_1674 : decode cL_law 1674 = .ok (.iconst 1, 1) := by decide +kernel
theorem dL_law_1675 : decode cL_law 1675 = .ok (.iadd, 1) := by decide +kernel
theorem dL_law_1676 : decode cL_law 1676 = .ok (.iaload, 1) := by decide +kernel
theorem dL_law_1677 : decode cL_law 1677 = .ok (.invokevirtual 197, 3) := by decide +kernel
theorem dL_law_1680 : decode cL_law 1680 = .ok (.if_icmp .eq 74, 3) := by decide +kernel
theorem dL_law_1685 : decode cL_law 1685 = .ok (.aload_n 1, 1) := by decide +kernel
theorem dL_law_1686 : decode cL_law 1686 = .ok (.aload_n 0, 1) := by decide +kernel
theorem dL_law_1687 : decode cL_law 1687 = .ok (.iload_n 3, 1) := by decide +kernel
theorem dL_law_1688 : decode cL_law 1688 = .ok (.iconst 1, 1) := by decide +kernel
theorem dL_law_1689 : decode cL_law 1689 = .ok (.iadd, 1) := by decide +kernel
theorem dL_law_1690 : decode cL_law 1690 = .ok (.iaload, 1) := by decide +kernel
theorem dL_law_1691 : decode cL_law 1691 = .ok (.aload_n 0, 1) := by decide +kernel
theorem dL_law_1692 : decode cL_law 1692 = .ok (.iload_n 3, 1) := by decide +kernel
theorem dL_law_1693 : decode cL_law 1693 = .ok (.iconst 2, 1) := by decide +kernel
theorem dL_law_1694 : decode cL_law 1694 = .ok (.iadd, 1) := by decide +kernel
theorem dL_law_1695 : decode cL_law 1695 = .ok (.iaload, 1) := by decide +kernel
theorem dL_law_1696 : decode cL_law 1696 = .ok (.aload_n 0, 1) := by decide +kernel
theorem dL_law_1697 : decode cL_law 1697 = .ok (.iload_n 3, 1) := by decide +kernel
theorem dL_law_1698 : decode cL_law 1698 = .ok (.iconst 3, 1) := by decide +kernel
theorem dL_law_1699 : decode cL_law 1699 = .ok (.iadd, 1) := by decide +kernel
theorem dL_law_1700 : decode cL_law 1700 = .ok (.iaload, 1) := by decide +kernel
theorem dL_law_1701 : decode cL_law 1701 = .ok (.invokevirtual 198, 3) := by decide +kernel
theorem dL_law_1704 : decode cL_law 1704 = .ok (.aload_n 2, 1) := by decide +kernel
theorem dL_law_1705 : decode cL_law 1705 = .ok (.aload_n 0, 1) := by decide +kernel
theorem dL_law_1706 : decode cL_law 1706 = .ok (.iload_n 3, 1) := by decide +kernel
theorem dL_law_1707 : decode cL_law 1707 = .ok (.iconst 1, 1) := by decide +kernel
theorem dL_law_1708 : decode cL_law 1708 = .ok (.iadd, 1) := by decide +kernel
theorem dL_law_1709 : decode cL_law 1709 = .ok (.iaload, 1) := by decide +kernel
theorem dL_law_1710 : decode cL_law 1710 = .ok (.aload_n 0, 1) := by decide +kernel
theorem dL_law_1711 : decode cL_law 1711 = .ok (.iload_n 3, 1) := by decide +kernel
theorem dL_law_1712 : decode cL_law 1712 = .ok (.iconst 2, 1) := by decide +kernel
theorem dL_law_1713 : decode cL_law 1713 = .ok (.iadd, 1) := by decide +kernel
theorem dL_law_1714 : decode cL_law 1714 = .ok (.iaload, 1) := by decide +kernel
theorem dL_law_1715 : decode cL_law 1715 = .ok (.aload_n 0, 1) := by decide +kernel
theorem dL_law_1716 : decode cL_law 1716 = .ok (.iload_n 3, 1) := by decide +kernel
theorem dL_law_1717 : decode cL_law 1717 = .ok (.iconst 3, 1) := by decide +kernel
theorem dL_law_1718 : decode cL_law 1718 = .ok (.iadd, 1) := by decide +kernel
theorem dL_law_1719 : decode cL_law 1719 = .ok (.iaload, 1) := by decide +kernel
theorem dL_law_1720 : decode cL_law 1720 = .ok (.invokevirtual 201, 3) := by decide +kernel
theorem dL_law_1723 : decode cL_law 1723 = .ok (.if_icmp .eq 31, 3) := by decide +kernel
theorem dL_law_1728 : decode cL_law 1728 = .ok (.aload_n 1, 1) := by decide +kernel
theorem dL_law_1729 : decode cL_law 1729 = .ok (.invokevirtual 202, 3) := by decide +kernel
theorem dL_law_1732 : decode cL_law 1732 = .ok (.aload_n 2, 1) := by decide +kernel
theorem dL_law_1733 : decode cL_law 1733 = .ok (.invokevirtual 205, 3) := by decide +kernel
theorem dL_law_1736 : decode cL_law 1736 = .ok (.if_icmp .eq 18, 3) := by decide +kernel
theorem dL_law_1741 : decode cL_law 1741 = .ok (.aload_n 1, 1) := by decide +kernel
theorem dL_law_1742 : decode cL_law 1742 = .ok (.invokevirtual 206, 3) := by decide +kernel
theorem dL_law_1745 : decode cL_law 1745 = .ok (.aload_n 2, 1) := by decide +kernel
theorem dL_law_1746 : decode cL_law 1746 = .ok (.invokevirtual 209, 3) := by decide +kernel
theorem dL_law_1749 : decode cL_law 1749 = .ok (.if_icmp .eq 5, 3) := by decide +kernel
theorem dL_law_1754 : decode cL_law 1754 = .ok (.iinc 3 6, 3) := by decide +kernel
theorem dL_law_1757 : decode cL_law 1757 = .ok (.goto (-1739), 3) := by decide +kernel
theorem dL_law_1760 : decode cL_law 1760 = .ok (.iconst 1, 1) := by decide +kernel
theorem dL_law_1761 : decode cL_law 1761 = .ok (.ireturn, 1) := by decide +kernel
set_option maxRecDepth 100000 in
theorem o_k_L_law_0 {nm : String} {l : Launch} {P : xP} : xAll l P xMT (xMuL nm) 0 (k_L_law_0 P.2.2.2.2.1) := ⟨(show xSim l P xMT (xMuL nm) 0 (i_new 11 20 [.inl (.int (Int32.ofNat 0)), .inl (.long (Int64.ofNat 0)), .inl (.long (Int64.ofNat 0)), .inl .null, .inl .null, .inl .null, .inl .null, .inl .null, .inl .null, .inl .null, .inl (.int (Int32.ofNat 0)), .inl .null, .inl .null, .inl .null, .inl .null, .inl .null, .inl .null, .inl (.int (Int32.ofNat 0)), .inl (.int (Int32.ofNat 0)), .inl .null] 3) from s_new 11 tyX11 [.int (Int32.ofNat 0), .long (Int64.ofNat 0), .long (Int64.ofNat 0), .null, .null, .null, .null, .null, .null, .null, .int (Int32.ofNat 0), .null, .null, .null, .null, .null, .null, .int (Int32.ofNat 0), .int (Int32.ofNat 0), .null] [.inl (.int (Int32.ofNat 0)), .inl (.long (Int64.ofNat 0)), .inl (.long (Int64.ofNat 0)), .inl .null, .inl .null, .inl .null, .inl .null, .inl .null, .inl .null, .inl .null, .inl (.int (Int32.ofNat 0)), .inl .null, .inl .null, .inl .null, .inl .null, .inl .null, .inl .null, .inl (.int (Int32.ofNat 0)), .inl (.int (Int32.ofNat 0)), .inl .null] dL_law_0 (xvc_11) xin_11 tyX11_ok w_713 w_714 w_249 rfl rfl (by decide +kernel)), ⟨(show xSim l P xMT (xMuL nm) 3 (i_dup 4) from s_dup dL_law_3), ⟨(show xSim l P xMT (xMuL nm) 4 (i_call (some 11) 93 1 120 9003 7) from s_callI 11 (q_X11_init) t_X11_init m_X11_init dL_law_4 (xvc_11) w_716 w_717 rfl rfl w_715 w_249 h_X11_init ⟨(show q_X11_init.2.2.2.2.frames + 1 ≤ room_1.frames by decide +kernel), (show 8 + (q_X11_init.2.2.1 + 11) + q_X11_init.2.2.2.2.locals ≤ room_1.locals by decide +kernel)⟩), ⟨(show xSim l P xMT (xMuL nm) 7 (i_store1 x_isA 4 1 8) from s_astore_n dL_law_7 rfl), ⟨(show xSim l P xMT (xMuL nm) 8 (i_new 12 48 [.inl (.int (Int32.ofNat 0)), .inl (.int (Int32.ofNat 0)), .inl (.long (Int64.ofNat 0)), .inl (.long (Int64.ofNat 0)), .inl .null, .inl .null, .inl .null, .inl .null, .inl (.int (Int32.ofNat 0)), .inl (.int (Int32.ofNat 0)), .inl (.int (Int32.ofNat 0)), .inl (.int (Int32.ofNat 0)), .inl (.int (Int32.ofNat 0)), .inl (.int (Int32.ofNat 0)), .inl (.int (Int32.ofNat 0)), .inl (.int (Int32.ofNat 0)), .inl (.int (Int32.ofNat 0)), .inl (.int (Int32.ofNat 0)), .inl (.int (Int32.ofNat 0)), .inl (.long (Int64.ofNat 0)), .inl .null, .inl .null, .inl .null, .inl (.int (Int32.ofNat 0)), .inl (.int (Int32.ofNat 0)), .inl (.int (Int32.ofNat 0)), .inl .null, .inl .null, .inl .null, .inl (.int (Int32.ofNat 0)), .inl .null, .inl (.int (Int32.ofNat 0)), .inl (.int (Int32.ofNat 0)), .inl (.int (Int32.ofNat 0)), .inl (.int (Int32.ofNat 0)), .inl (.int (Int32.ofNat 0)), .inl .null, .inl .null, .inl .null, .inl .null, .inl (.int (Int32.ofNat 0)), .inl (.int (Int32.ofNat 0)), .inl (.int (Int32.ofNat 0)), .inl (.int (Int32.ofNat 0)), .inl (.int (Int32.ofNat 0)), .inl (.int (Int32.ofNat 0)), .inl (.int (Int32.ofNat 0)), .inl (.int (Int32.ofNat 0))] 11) from s_new 12 tyX12 [.int (Int32.ofNat 0), .int (Int32.ofNat 0), .long (Int64.ofNat 0), .long (Int64.ofNat 0), .null, .null, .null, .null, .int (Int32.ofNat 0), .int (Int32.ofNat 0), .int (Int32.ofNat 0), .int (Int32.ofNat 0), .int (Int32.ofNat 0), .int (Int32.ofNat 0), .int (Int32.ofNat 0), .int (Int32.ofNat 0), .int (Int32.ofNat 0), .int (Int32.ofNat 0), .int (Int32.ofNat 0), .long (Int64.ofNat 0), .null, .null, .null, .int (Int32.ofNat 0), .int (Int32.ofNat 0), .int (Int32.ofNat 0), .null, .null, .null, .int (Int32.ofNat 0), .null, .int (Int32.ofNat 0), .int (Int32.ofNat 0), .int (Int32.ofNat 0), .int (Int32.ofNat 0), .int (Int32.ofNat 0), .null, .null, .null, .null, .int (Int32.ofNat 0), .int (Int32.ofNat 0), .int (Int32.ofNat 0), .int (Int32.ofNat 0), .int (Int32.ofNat 0), .int (Int32.ofNat 0), .int (Int32.ofNat 0), .int (Int32.ofNat 0)] [.inl (.int (Int32.ofNat 0)), .inl (.int (Int32.ofNat 0)), .inl (.long (Int64.ofNat 0)), .inl (.long (Int64.ofNat 0)), .inl .null, .inl .null, .inl .null, .inl .null, .inl (.int (Int32.ofNat 0)), .inl (.int (Int32.ofNat 0)), .inl (.int (Int32.ofNat 0)), .inl (.int (Int32.ofNat 0)), .inl (.int (Int32.ofNat 0)), .inl (.int (Int32.ofNat 0)), .inl (.int (Int32.ofNat 0)), .inl (.int (Int32.ofNat 0)), .inl (.int (Int32.ofNat 0)), .inl (.int (Int32.ofNat 0)), .inl (.int (Int32.ofNat 0)), .inl (.long (Int64.ofNat 0)), .inl .null, .inl .null, .inl .null, .inl (.int (Int32.ofNat 0)), .inl (.int (Int32.ofNat 0)), .inl (.int (Int32.ofNat 0)), .inl .null, .inl .null, .inl .null, .inl (.int (Int32.ofNat 0)), .inl .null, .inl (.int (Int32.ofNat 0)), .inl (.int (Int32.ofNat 0)), .inl (.int (Int32.ofNat 0)), .inl (.int (Int32.ofNat 0)), .inl (.int (Int32.ofNat 0)), .inl .null, .inl .null, .inl .null, .inl .null, .inl (.int (Int32.ofNat 0)), .inl (.int (Int32.ofNat 0)), .inl (.int (Int32.ofNat 0)), .inl (.int (Int32.ofNat 0)), .inl (.int (Int32.ofNat 0)), .inl (.int (Int32.ofNat 0)), .inl (.int (Int32.ofNat 0)), .inl (.int (Int32.ofNat 0))] dL_law_8 (xvc_12) xin_12 tyX12_ok w_718 w_719 w_490 rfl rfl (by decide +kernel)), ⟨(show xSim l P xMT (xMuL nm) 11 (i_dup 12) from s_dup dL_law_11), ⟨(show xSim l P xMT (xMuL nm) 12 (i_call (some 12) 158 1 15 4501 15) from s_callI 12 (q_X12_init) t_X12_init m_X12_init dL_law_12 (xvc_12) w_721 w_722 rfl rfl w_720 w_490 h_X12_init ⟨(show q_X12_init.2.2.2.2.frames + 1 ≤ room_1.frames by decide +kernel), (show 8 + (q_X12_init.2.2.1 + 11) + q_X12_init.2.2.2.2.locals ≤ room_1.locals by decide +kernel)⟩), ⟨(show xSim l P xMT (xMuL nm) 15 (i_store1 x_isA 4 2 16) from s_astore_n dL_law_15 rfl), trivial⟩⟩⟩⟩⟩⟩⟩⟩
set_option maxRecDepth 100000 in
theorem o_k_L_law_1 {nm : String} {l : Launch} {P : xP} : xAll l P xMT (xMuL nm) 16 (k_L_law_1 P.2.2.2.2.1) := ⟨(show xSim l P xMT (xMuL nm) 16 (i_push (.inl (.int (Int32.ofNat 0))) 17) from s_iconst (Int32.ofNat 0) dL_law_16 (by decide +kernel)), ⟨(show xSim l P xMT (xMuL nm) 17 (i_store1 x_isI 4 3 18) from s_istore_n dL_law_17 rfl), ⟨(show xSim l P xMT (xMuL nm) 18 (i_load x_isI 3 19) from s_iload_n dL_law_18 rfl), ⟨(show xSim l P xMT (xMuL nm) 19 (i_load x_isA 0 20) from s_aload_n dL_law_19 rfl), ⟨(show xSim l P xMT (xMuL nm) 20 (i_slen P.2.2.2.2.1 21) from s_slen dL_law_20), ⟨(show xSim l P xMT (xMuL nm) 21 (i_push (.inl (.int (Int32.ofNat 6))) 23) from s_bipush (Int32.ofNat 6) dL_law_21 (by decide +kernel)), ⟨(show xSim l P xMT (xMuL nm) 23 (i_bin32 (fun x y => x - y) 24) from s_isub dL_law_23), ⟨(show xSim l P xMT (xMuL nm) 24 (i_icmp 1 1760 27) from s_icmp_gt 1760 dL_law_24 (by decide +kernel)), ⟨(show xSim l P xMT (xMuL nm) 27 (i_load x_isA 0 28) from s_aload_n dL_law_27 rfl), ⟨(show xSim l P xMT (xMuL nm) 28 (i_load x_isI 3 29) from s_iload_n dL_law_28 rfl), ⟨(show xSim l P xMT (xMuL nm) 29 (i_sld P.2.2.2.2.1 30) from s_sld dL_law_29), ⟨(show xSim l P xMT (xMuL nm) 30 (i_push (.inl (.int (Int32.ofNat 63))) 32) from s_bipush (Int32.ofNat 63) dL_law_30 (by decide +kernel)), trivial⟩⟩⟩⟩⟩⟩⟩⟩⟩⟩⟩⟩
set_option maxRecDepth 100000 in
theorem o_k_L_law_2 {nm : String} {l : Launch} {P : xP} : xAll l P xMT (xMuL nm) 32 (k_L_law_2 P.2.2.2.2.1) := ⟨(show xSim l P xMT (xMuL nm) 32 (i_sel 33) from s_sel dL_law_32), ⟨(show xSim l P xMT (xMuL nm) 33 (i_sw 1754 [(0, 232), (1, 245), (2, 259), (3, 273), (4, 316), (5, 389), (6, 423), (7, 486), (8, 549), (9, 572), (10, 595), (11, 618), (12, 641), (13, 684), (14, 727), (15, 770), (16, 803), (17, 846), (18, 889), (19, 932), (20, 975), (21, 1008), (22, 1041), (23, 1074), (24, 1097), (25, 1120), (26, 1153), (27, 1176), (28, 1189), (29, 1212), (30, 1235), (31, 1268), (32, 1281), (33, 1314), (34, 1357), (35, 1380), (36, 1423), (37, 1456), (38, 1490), (39, 1533), (40, 1596), (41, 1639), (42, 1662), (43, 1685), (44, 1728), (45, 1741)]) from s_tsw 1754 [(0, 232), (1, 245), (2, 259), (3, 273), (4, 316), (5, 389), (6, 423), (7, 486), (8, 549), (9, 572), (10, 595), (11, 618), (12, 641), (13, 684), (14, 727), (15, 770), (16, 803), (17, 846), (18, 889), (19, 932), (20, 975), (21, 1008), (22, 1041), (23, 1074), (24, 1097), (25, 1120), (26, 1153), (27, 1176), (28, 1189), (29, 1212), (30, 1235), (31, 1268), (32, 1281), (33, 1314), (34, 1357), (35, 1380), (36, 1423), (37, 1456), (38, 1490), (39, 1533), (40, 1596), (41, 1639), (42, 1662), (43, 1685), (44, 1728), (45, 1741)] dL_law_33 (by decide +kernel) (by decide +kernel) (by decide +kernel) (by decide +kernel) (by decide +kernel)), trivial⟩⟩
set_option maxRecDepth 100000 in
theorem o_k_L_law_3 {nm : String} {l : Launch} {P : xP} : xAll l P xMT (xMuL nm) 48 (k_L_law_3 P.2.2.2.2.1) := trivial
set_option maxRecDepth 100000 in
theorem o_k_L_law_4 {nm : String} {l : Launch} {P : xP} : xAll l P xMT (xMuL nm) 64 (k_L_law_4 P.2.2.2.2.1) := trivial
set_option maxRecDepth 100000 in
theorem o_k_L_law_5 {nm : String} {l : Launch} {P : xP} : xAll l P xMT (xMuL nm) 80 (k_L_law_5 P.2.2.2.2.1) := trivial
set_option maxRecDepth 100000 in
theorem o_k_L_law_6 {nm : String} {l : Launch} {P : xP} : xAll l P xMT (xMuL nm) 96 (k_L_law_6 P.2.2.2.2.1) := trivial
set_option maxRecDepth 100000 in
theorem o_k_L_law_7 {nm : String} {l : Launch} {P : xP} : xAll l P xMT (xMuL nm) 112 (k_L_law_7 P.2.2.2.2.1) := trivial
set_option maxRecDepth 100000 in
theorem o_k_L_law_8 {nm : String} {l : Launch} {P : xP} : xAll l P xMT (xMuL nm) 128 (k_L_law_8 P.2.2.2.2.1) := trivial
set_option maxRecDepth 100000 in
theorem o_k_L_law_9 {nm : String} {l : Launch} {P : xP} : xAll l P xMT (xMuL nm) 144 (k_L_law_9 P.2.2.2.2.1) := trivial
set_option maxRecDepth 100000 in
theorem o_k_L_law_10 {nm : String} {l : Launch} {P : xP} : xAll l P xMT (xMuL nm) 160 (k_L_law_10 P.2.2.2.2.1) := trivial
set_option maxRecDepth 100000 in
theorem o_k_L_law_11 {nm : String} {l : Launch} {P : xP} : xAll l P xMT (xMuL nm) 176 (k_L_law_11 P.2.2.2.2.1) := trivial
set_option maxRecDepth 100000 in
theorem o_k_L_law_12 {nm : String} {l : Launch} {P : xP} : xAll l P xMT (xMuL nm) 192 (k_L_law_12 P.2.2.2.2.1) := trivial
set_option maxRecDepth 100000 in
theorem o_k_L_law_13 {nm : String} {l : Launch} {P : xP} : xAll l P xMT (xMuL nm) 208 (k_L_law_13 P.2.2.2.2.1) := trivial
set_option maxRecDepth 100000 in
theorem o_k_L_law_14 {nm : String} {l : Launch} {P : xP} : xAll l P xMT (xMuL nm) 224 (k_L_law_14 P.2.2.2.2.1) := ⟨(show xSim l P xMT (xMuL nm) 232 (i_load x_isA 1 233) from s_aload_n dL_law_232 rfl), ⟨(show xSim l P xMT (xMuL nm) 233 (i_call (some 11) 114 1 0 0 236) from s_callV 11 (q_X11_status) t_X11_status m_X11_status dL_law_233 rfl (xvc_11) w_724 w_725 w_726 w_723 w_249 h_X11_status ⟨(show q_X11_status.2.2.2.2.frames + 1 ≤ room_1.frames by decide +kernel), (show 8 + (q_X11_status.2.2.1 + 11) + q_X11_status.2.2.2.2.locals ≤ room_1.locals by decide +kernel)⟩), ⟨(show xSim l P xMT (xMuL nm) 236 (i_load x_isA 2 237) from s_aload_n dL_law_236 rfl), ⟨(show xSim l P xMT (xMuL nm) 237 (i_call (some 12) 201 1 0 0 240) from s_callV 12 (q_X12_status) t_X12_status m_X12_status dL_law_237 rfl (xvc_12) w_728 w_729 w_730 w_727 w_490 h_X12_status ⟨(show q_X12_status.2.2.2.2.frames + 1 ≤ room_1.frames by decide +kernel), (show 8 + (q_X12_status.2.2.1 + 11) + q_X12_status.2.2.2.2.locals ≤ room_1.locals by decide +kernel)⟩), trivial⟩⟩⟩⟩
set_option maxRecDepth 100000 in
theorem o_k_L_law_15 {nm : String} {l : Launch} {P : xP} : xAll l P xMT (xMuL nm) 240 (k_L_law_15 P.2.2.2.2.1) := ⟨(show xSim l P xMT (xMuL nm) 240 (i_icmp 2 1754 243) from s_icmp_eq 1754 dL_law_240 (by decide +kernel)), ⟨(show xSim l P xMT (xMuL nm) 245 (i_load x_isA 1 246) from s_aload_n dL_law_245 rfl), ⟨(show xSim l P xMT (xMuL nm) 246 (i_call (some 11) 120 1 0 0 249) from s_callV 11 (q_X11_top) t_X11_top m_X11_top dL_law_246 rfl (xvc_11) w_732 w_733 w_734 w_731 w_249 h_X11_top ⟨(show q_X11_top.2.2.2.2.frames + 1 ≤ room_1.frames by decide +kernel), (show 8 + (q_X11_top.2.2.1 + 11) + q_X11_top.2.2.2.2.locals ≤ room_1.locals by decide +kernel)⟩), ⟨(show xSim l P xMT (xMuL nm) 249 (i_load x_isA 2 250) from s_aload_n dL_law_249 rfl), ⟨(show xSim l P xMT (xMuL nm) 250 (i_call (some 12) 208 1 0 0 253) from s_callV 12 (q_X12_top) t_X12_top m_X12_top dL_law_250 rfl (xvc_12) w_736 w_737 w_738 w_735 w_490 h_X12_top ⟨(show q_X12_top.2.2.2.2.frames + 1 ≤ room_1.frames by decide +kernel), (show 8 + (q_X12_top.2.2.1 + 11) + q_X12_top.2.2.2.2.locals ≤ room_1.locals by decide +kernel)⟩), ⟨(show xSim l P xMT (xMuL nm) 253 (i_lcmp 254) from s_lcmp dL_law_253), ⟨(show xSim l P xMT (xMuL nm) 254 (i_if 2 1754 257) from s_if_eq 1754 dL_law_254 (by decide +kernel)), trivial⟩⟩⟩⟩⟩⟩⟩
set_option maxRecDepth 100000 in
theorem o_k_L_law_16 {nm : String} {l : Launch} {P : xP} : xAll l P xMT (xMuL nm) 256 (k_L_law_16 P.2.2.2.2.1) := ⟨(show xSim l P xMT (xMuL nm) 259 (i_load x_isA 1 260) from s_aload_n dL_law_259 rfl), ⟨(show xSim l P xMT (xMuL nm) 260 (i_call (some 11) 79 1 0 0 263) from s_callV 11 (q_X11_bottom) t_X11_bottom m_X11_bottom dL_law_260 rfl (xvc_11) w_740 w_741 w_742 w_739 w_249 h_X11_bottom ⟨(show q_X11_bottom.2.2.2.2.frames + 1 ≤ room_1.frames by decide +kernel), (show 8 + (q_X11_bottom.2.2.1 + 11) + q_X11_bottom.2.2.2.2.locals ≤ room_1.locals by decide +kernel)⟩), ⟨(show xSim l P xMT (xMuL nm) 263 (i_load x_isA 2 264) from s_aload_n dL_law_263 rfl), ⟨(show xSim l P xMT (xMuL nm) 264 (i_call (some 12) 136 1 0 0 267) from s_callV 12 (q_X12_bottom) t_X12_bottom m_X12_bottom dL_law_264 rfl (xvc_12) w_744 w_745 w_746 w_743 w_490 h_X12_bottom ⟨(show q_X12_bottom.2.2.2.2.frames + 1 ≤ room_1.frames by decide +kernel), (show 8 + (q_X12_bottom.2.2.1 + 11) + q_X12_bottom.2.2.2.2.locals ≤ room_1.locals by decide +kernel)⟩), ⟨(show xSim l P xMT (xMuL nm) 267 (i_lcmp 268) from s_lcmp dL_law_267), ⟨(show xSim l P xMT (xMuL nm) 268 (i_if 2 1754 271) from s_if_eq 1754 dL_law_268 (by decide +kernel)), trivial⟩⟩⟩⟩⟩⟩
set_option maxRecDepth 100000 in
theorem o_k_L_law_17 {nm : String} {l : Launch} {P : xP} : xAll l P xMT (xMuL nm) 272 (k_L_law_17 P.2.2.2.2.1) := ⟨(show xSim l P xMT (xMuL nm) 273 (i_load x_isA 1 274) from s_aload_n dL_law_273 rfl), ⟨(show xSim l P xMT (xMuL nm) 274 (i_load x_isA 0 275) from s_aload_n dL_law_274 rfl), ⟨(show xSim l P xMT (xMuL nm) 275 (i_load x_isI 3 276) from s_iload_n dL_law_275 rfl), ⟨(show xSim l P xMT (xMuL nm) 276 (i_push (.inl (.int (Int32.ofNat 1))) 277) from s_iconst (Int32.ofNat 1) dL_law_276 (by decide +kernel)), ⟨(show xSim l P xMT (xMuL nm) 277 (i_bin32 (fun x y => x + y) 278) from s_iadd dL_law_277), ⟨(show xSim l P xMT (xMuL nm) 278 (i_sld P.2.2.2.2.1 279) from s_sld dL_law_278), ⟨(show xSim l P xMT (xMuL nm) 279 (i_load x_isA 0 280) from s_aload_n dL_law_279 rfl), ⟨(show xSim l P xMT (xMuL nm) 280 (i_load x_isI 3 281) from s_iload_n dL_law_280 rfl), ⟨(show xSim l P xMT (xMuL nm) 281 (i_push (.inl (.int (Int32.ofNat 2))) 282) from s_iconst (Int32.ofNat 2) dL_law_281 (by decide +kernel)), ⟨(show xSim l P xMT (xMuL nm) 282 (i_bin32 (fun x y => x + y) 283) from s_iadd dL_law_282), ⟨(show xSim l P xMT (xMuL nm) 283 (i_sld P.2.2.2.2.1 284) from s_sld dL_law_283), ⟨(show xSim l P xMT (xMuL nm) 284 (i_load x_isA 0 285) from s_aload_n dL_law_284 rfl), ⟨(show xSim l P xMT (xMuL nm) 285 (i_load x_isI 3 286) from s_iload_n dL_law_285 rfl), ⟨(show xSim l P xMT (xMuL nm) 286 (i_push (.inl (.int (Int32.ofNat 3))) 287) from s_iconst (Int32.ofNat 3) dL_law_286 (by decide +kernel)), ⟨(show xSim l P xMT (xMuL nm) 287 (i_bin32 (fun x y => x + y) 288) from s_iadd dL_law_287), trivial⟩⟩⟩⟩⟩⟩⟩⟩⟩⟩⟩⟩⟩⟩⟩
set_option maxRecDepth 100000 in
theorem o_k_L_law_18 {nm : String} {l : Launch} {P : xP} : xAll l P xMT (xMuL nm) 288 (k_L_law_18 P.2.2.2.2.1) := ⟨(show xSim l P xMT (xMuL nm) 288 (i_sld P.2.2.2.2.1 289) from s_sld dL_law_288), ⟨(show xSim l P xMT (xMuL nm) 289 (i_call (some 11) 121 4 0 0 292) from s_callV 11 (q_X11_tray) t_X11_tray m_X11_tray dL_law_289 rfl (xvc_11) w_748 w_749 w_750 w_747 w_249 h_X11_tray ⟨(show q_X11_tray.2.2.2.2.frames + 1 ≤ room_1.frames by decide +kernel), (show 8 + (q_X11_tray.2.2.1 + 11) + q_X11_tray.2.2.2.2.locals ≤ room_1.locals by decide +kernel)⟩), ⟨(show xSim l P xMT (xMuL nm) 292 (i_load x_isA 2 293) from s_aload_n dL_law_292 rfl), ⟨(show xSim l P xMT (xMuL nm) 293 (i_load x_isA 0 294) from s_aload_n dL_law_293 rfl), ⟨(show xSim l P xMT (xMuL nm) 294 (i_load x_isI 3 295) from s_iload_n dL_law_294 rfl), ⟨(show xSim l P xMT (xMuL nm) 295 (i_push (.inl (.int (Int32.ofNat 1))) 296) from s_iconst (Int32.ofNat 1) dL_law_295 (by decide +kernel)), ⟨(show xSim l P xMT (xMuL nm) 296 (i_bin32 (fun x y => x + y) 297) from s_iadd dL_law_296), ⟨(show xSim l P xMT (xMuL nm) 297 (i_sld P.2.2.2.2.1 298) from s_sld dL_law_297), ⟨(show xSim l P xMT (xMuL nm) 298 (i_load x_isA 0 299) from s_aload_n dL_law_298 rfl), ⟨(show xSim l P xMT (xMuL nm) 299 (i_load x_isI 3 300) from s_iload_n dL_law_299 rfl), ⟨(show xSim l P xMT (xMuL nm) 300 (i_push (.inl (.int (Int32.ofNat 2))) 301) from s_iconst (Int32.ofNat 2) dL_law_300 (by decide +kernel)), ⟨(show xSim l P xMT (xMuL nm) 301 (i_bin32 (fun x y => x + y) 302) from s_iadd dL_law_301), ⟨(show xSim l P xMT (xMuL nm) 302 (i_sld P.2.2.2.2.1 303) from s_sld dL_law_302), ⟨(show xSim l P xMT (xMuL nm) 303 (i_load x_isA 0 304) from s_aload_n dL_law_303 rfl), trivial⟩⟩⟩⟩⟩⟩⟩⟩⟩⟩⟩⟩⟩⟩
set_option maxRecDepth 100000 in
theorem o_k_L_law_19 {nm : String} {l : Launch} {P : xP} : xAll l P xMT (xMuL nm) 304 (k_L_law_19 P.2.2.2.2.1) := ⟨(show xSim l P xMT (xMuL nm) 304 (i_load x_isI 3 305) from s_iload_n dL_law_304 rfl), ⟨(show xSim l P xMT (xMuL nm) 305 (i_push (.inl (.int (Int32.ofNat 3))) 306) from s_iconst (Int32.ofNat 3) dL_law_305 (by decide +kernel)), ⟨(show xSim l P xMT (xMuL nm) 306 (i_bin32 (fun x y => x + y) 307) from s_iadd dL_law_306), ⟨(show xSim l P xMT (xMuL nm) 307 (i_sld P.2.2.2.2.1 308) from s_sld dL_law_307), ⟨(show xSim l P xMT (xMuL nm) 308 (i_call (some 12) 209 4 0 0 311) from s_callV 12 (q_X12_tray) t_X12_tray m_X12_tray dL_law_308 rfl (xvc_12) w_752 w_753 w_754 w_751 w_490 h_X12_tray ⟨(show q_X12_tray.2.2.2.2.frames + 1 ≤ room_1.frames by decide +kernel), (show 8 + (q_X12_tray.2.2.1 + 11) + q_X12_tray.2.2.2.2.locals ≤ room_1.locals by decide +kernel)⟩), ⟨(show xSim l P xMT (xMuL nm) 311 (i_icmp 2 1754 314) from s_icmp_eq 1754 dL_law_311 (by decide +kernel)), ⟨(show xSim l P xMT (xMuL nm) 316 (i_load x_isA 1 317) from s_aload_n dL_law_316 rfl), ⟨(show xSim l P xMT (xMuL nm) 317 (i_load x_isA 0 318) from s_aload_n dL_law_317 rfl), ⟨(show xSim l P xMT (xMuL nm) 318 (i_load x_isI 3 319) from s_iload_n dL_law_318 rfl), ⟨(show xSim l P xMT (xMuL nm) 319 (i_push (.inl (.int (Int32.ofNat 1))) 320) from s_iconst (Int32.ofNat 1) dL_law_319 (by decide +kernel)), trivial⟩⟩⟩⟩⟩⟩⟩⟩⟩⟩
set_option maxRecDepth 100000 in
theorem o_k_L_law_20 {nm : String} {l : Launch} {P : xP} : xAll l P xMT (xMuL nm) 320 (k_L_law_20 P.2.2.2.2.1) := ⟨(show xSim l P xMT (xMuL nm) 320 (i_bin32 (fun x y => x + y) 321) from s_iadd dL_law_320), ⟨(show xSim l P xMT (xMuL nm) 321 (i_sld P.2.2.2.2.1 322) from s_sld dL_law_321), ⟨(show xSim l P xMT (xMuL nm) 322 (i_load x_isA 0 323) from s_aload_n dL_law_322 rfl), ⟨(show xSim l P xMT (xMuL nm) 323 (i_load x_isI 3 324) from s_iload_n dL_law_323 rfl), ⟨(show xSim l P xMT (xMuL nm) 324 (i_push (.inl (.int (Int32.ofNat 2))) 325) from s_iconst (Int32.ofNat 2) dL_law_324 (by decide +kernel)), ⟨(show xSim l P xMT (xMuL nm) 325 (i_bin32 (fun x y => x + y) 326) from s_iadd dL_law_325), ⟨(show xSim l P xMT (xMuL nm) 326 (i_sld P.2.2.2.2.1 327) from s_sld dL_law_326), ⟨(show xSim l P xMT (xMuL nm) 327 (i_load x_isA 0 328) from s_aload_n dL_law_327 rfl), ⟨(show xSim l P xMT (xMuL nm) 328 (i_load x_isI 3 329) from s_iload_n dL_law_328 rfl), ⟨(show xSim l P xMT (xMuL nm) 329 (i_push (.inl (.int (Int32.ofNat 3))) 330) from s_iconst (Int32.ofNat 3) dL_law_329 (by decide +kernel)), ⟨(show xSim l P xMT (xMuL nm) 330 (i_bin32 (fun x y => x + y) 331) from s_iadd dL_law_330), ⟨(show xSim l P xMT (xMuL nm) 331 (i_sld P.2.2.2.2.1 332) from s_sld dL_law_331), ⟨(show xSim l P xMT (xMuL nm) 332 (i_i2l 333) from s_i2l dL_law_332), ⟨(show xSim l P xMT (xMuL nm) 333 (i_push (.inl (.int (Int32.ofNat 32))) 335) from s_bipush (Int32.ofNat 32) dL_law_333 (by decide +kernel)), ⟨(show xSim l P xMT (xMuL nm) 335 (i_sh64 (fun x y => x <<< (y.toInt64 &&& 63)) 336) from s_lshl dL_law_335), trivial⟩⟩⟩⟩⟩⟩⟩⟩⟩⟩⟩⟩⟩⟩⟩
set_option maxRecDepth 100000 in
theorem o_k_L_law_21 {nm : String} {l : Launch} {P : xP} : xAll l P xMT (xMuL nm) 336 (k_L_law_21 P.2.2.2.2.1) := ⟨(show xSim l P xMT (xMuL nm) 336 (i_load x_isA 0 337) from s_aload_n dL_law_336 rfl), ⟨(show xSim l P xMT (xMuL nm) 337 (i_load x_isI 3 338) from s_iload_n dL_law_337 rfl), ⟨(show xSim l P xMT (xMuL nm) 338 (i_push (.inl (.int (Int32.ofNat 4))) 339) from s_iconst (Int32.ofNat 4) dL_law_338 (by decide +kernel)), ⟨(show xSim l P xMT (xMuL nm) 339 (i_bin32 (fun x y => x + y) 340) from s_iadd dL_law_339), ⟨(show xSim l P xMT (xMuL nm) 340 (i_sld P.2.2.2.2.1 341) from s_sld dL_law_340), ⟨(show xSim l P xMT (xMuL nm) 341 (i_i2l 342) from s_i2l dL_law_341), ⟨(show xSim l P xMT (xMuL nm) 342 (i_push (.inl (.long (Int64.ofNat 4294967295))) 345) from s_ldc2 (Int64.ofNat 4294967295) dL_law_342 w_755), ⟨(show xSim l P xMT (xMuL nm) 345 (i_bin64 (fun x y => x &&& y) 346) from s_land dL_law_345), ⟨(show xSim l P xMT (xMuL nm) 346 (i_bin64 (fun x y => x ||| y) 347) from s_lor dL_law_346), ⟨(show xSim l P xMT (xMuL nm) 347 (i_call (some 11) 127 4 0 0 350) from s_callV 11 (q_X11_write) t_X11_write m_X11_write dL_law_347 rfl (xvc_11) w_757 w_758 w_759 w_756 w_249 h_X11_write ⟨(show q_X11_write.2.2.2.2.frames + 1 ≤ room_1.frames by decide +kernel), (show 8 + (q_X11_write.2.2.1 + 11) + q_X11_write.2.2.2.2.locals ≤ room_1.locals by decide +kernel)⟩), ⟨(show xSim l P xMT (xMuL nm) 350 (i_load x_isA 2 351) from s_aload_n dL_law_350 rfl), ⟨(show xSim l P xMT (xMuL nm) 351 (i_load x_isA 0 352) from s_aload_n dL_law_351 rfl), trivial⟩⟩⟩⟩⟩⟩⟩⟩⟩⟩⟩⟩
set_option maxRecDepth 100000 in
theorem o_k_L_law_22 {nm : String} {l : Launch} {P : xP} : xAll l P xMT (xMuL nm) 352 (k_L_law_22 P.2.2.2.2.1) := ⟨(show xSim l P xMT (xMuL nm) 352 (i_load x_isI 3 353) from s_iload_n dL_law_352 rfl), ⟨(show xSim l P xMT (xMuL nm) 353 (i_push (.inl (.int (Int32.ofNat 1))) 354) from s_iconst (Int32.ofNat 1) dL_law_353 (by decide +kernel)), ⟨(show xSim l P xMT (xMuL nm) 354 (i_bin32 (fun x y => x + y) 355) from s_iadd dL_law_354), ⟨(show xSim l P xMT (xMuL nm) 355 (i_sld P.2.2.2.2.1 356) from s_sld dL_law_355), ⟨(show xSim l P xMT (xMuL nm) 356 (i_load x_isA 0 357) from s_aload_n dL_law_356 rfl), ⟨(show xSim l P xMT (xMuL nm) 357 (i_load x_isI 3 358) from s_iload_n dL_law_357 rfl), ⟨(show xSim l P xMT (xMuL nm) 358 (i_push (.inl (.int (Int32.ofNat 2))) 359) from s_iconst (Int32.ofNat 2) dL_law_358 (by decide +kernel)), ⟨(show xSim l P xMT (xMuL nm) 359 (i_bin32 (fun x y => x + y) 360) from s_iadd dL_law_359), ⟨(show xSim l P xMT (xMuL nm) 360 (i_sld P.2.2.2.2.1 361) from s_sld dL_law_360), ⟨(show xSim l P xMT (xMuL nm) 361 (i_load x_isA 0 362) from s_aload_n dL_law_361 rfl), ⟨(show xSim l P xMT (xMuL nm) 362 (i_load x_isI 3 363) from s_iload_n dL_law_362 rfl), ⟨(show xSim l P xMT (xMuL nm) 363 (i_push (.inl (.int (Int32.ofNat 3))) 364) from s_iconst (Int32.ofNat 3) dL_law_363 (by decide +kernel)), ⟨(show xSim l P xMT (xMuL nm) 364 (i_bin32 (fun x y => x + y) 365) from s_iadd dL_law_364), ⟨(show xSim l P xMT (xMuL nm) 365 (i_sld P.2.2.2.2.1 366) from s_sld dL_law_365), ⟨(show xSim l P xMT (xMuL nm) 366 (i_i2l 367) from s_i2l dL_law_366), ⟨(show xSim l P xMT (xMuL nm) 367 (i_push (.inl (.int (Int32.ofNat 32))) 369) from s_bipush (Int32.ofNat 32) dL_law_367 (by decide +kernel)), trivial⟩⟩⟩⟩⟩⟩⟩⟩⟩⟩⟩⟩⟩⟩⟩⟩
set_option maxRecDepth 100000 in
theorem o_k_L_law_23 {nm : String} {l : Launch} {P : xP} : xAll l P xMT (xMuL nm) 368 (k_L_law_23 P.2.2.2.2.1) := ⟨(show xSim l P xMT (xMuL nm) 369 (i_sh64 (fun x y => x <<< (y.toInt64 &&& 63)) 370) from s_lshl dL_law_369), ⟨(show xSim l P xMT (xMuL nm) 370 (i_load x_isA 0 371) from s_aload_n dL_law_370 rfl), ⟨(show xSim l P xMT (xMuL nm) 371 (i_load x_isI 3 372) from s_iload_n dL_law_371 rfl), ⟨(show xSim l P xMT (xMuL nm) 372 (i_push (.inl (.int (Int32.ofNat 4))) 373) from s_iconst (Int32.ofNat 4) dL_law_372 (by decide +kernel)), ⟨(show xSim l P xMT (xMuL nm) 373 (i_bin32 (fun x y => x + y) 374) from s_iadd dL_law_373), ⟨(show xSim l P xMT (xMuL nm) 374 (i_sld P.2.2.2.2.1 375) from s_sld dL_law_374), ⟨(show xSim l P xMT (xMuL nm) 375 (i_i2l 376) from s_i2l dL_law_375), ⟨(show xSim l P xMT (xMuL nm) 376 (i_push (.inl (.long (Int64.ofNat 4294967295))) 379) from s_ldc2 (Int64.ofNat 4294967295) dL_law_376 w_755), ⟨(show xSim l P xMT (xMuL nm) 379 (i_bin64 (fun x y => x &&& y) 380) from s_land dL_law_379), ⟨(show xSim l P xMT (xMuL nm) 380 (i_bin64 (fun x y => x ||| y) 381) from s_lor dL_law_380), ⟨(show xSim l P xMT (xMuL nm) 381 (i_call (some 12) 218 4 0 0 384) from s_callV 12 (q_X12_write) t_X12_write m_X12_write dL_law_381 rfl (xvc_12) w_761 w_762 w_763 w_760 w_490 h_X12_write ⟨(show q_X12_write.2.2.2.2.frames + 1 ≤ room_1.frames by decide +kernel), (show 8 + (q_X12_write.2.2.1 + 11) + q_X12_write.2.2.2.2.locals ≤ room_1.locals by decide +kernel)⟩), trivial⟩⟩⟩⟩⟩⟩⟩⟩⟩⟩⟩
set_option maxRecDepth 100000 in
theorem o_k_L_law_24 {nm : String} {l : Launch} {P : xP} : xAll l P xMT (xMuL nm) 384 (k_L_law_24 P.2.2.2.2.1) := ⟨(show xSim l P xMT (xMuL nm) 384 (i_icmp 2 1754 387) from s_icmp_eq 1754 dL_law_384 (by decide +kernel)), ⟨(show xSim l P xMT (xMuL nm) 389 (i_load x_isA 1 390) from s_aload_n dL_law_389 rfl), ⟨(show xSim l P xMT (xMuL nm) 390 (i_load x_isA 0 391) from s_aload_n dL_law_390 rfl), ⟨(show xSim l P xMT (xMuL nm) 391 (i_load x_isI 3 392) from s_iload_n dL_law_391 rfl), ⟨(show xSim l P xMT (xMuL nm) 392 (i_push (.inl (.int (Int32.ofNat 1))) 393) from s_iconst (Int32.ofNat 1) dL_law_392 (by decide +kernel)), ⟨(show xSim l P xMT (xMuL nm) 393 (i_bin32 (fun x y => x + y) 394) from s_iadd dL_law_393), ⟨(show xSim l P xMT (xMuL nm) 394 (i_sld P.2.2.2.2.1 395) from s_sld dL_law_394), ⟨(show xSim l P xMT (xMuL nm) 395 (i_load x_isA 0 396) from s_aload_n dL_law_395 rfl), ⟨(show xSim l P xMT (xMuL nm) 396 (i_load x_isI 3 397) from s_iload_n dL_law_396 rfl), ⟨(show xSim l P xMT (xMuL nm) 397 (i_push (.inl (.int (Int32.ofNat 2))) 398) from s_iconst (Int32.ofNat 2) dL_law_397 (by decide +kernel)), ⟨(show xSim l P xMT (xMuL nm) 398 (i_bin32 (fun x y => x + y) 399) from s_iadd dL_law_398), ⟨(show xSim l P xMT (xMuL nm) 399 (i_sld P.2.2.2.2.1 400) from s_sld dL_law_399), trivial⟩⟩⟩⟩⟩⟩⟩⟩⟩⟩⟩⟩
set_option maxRecDepth 100000 in
theorem o_k_L_law_25 {nm : String} {l : Launch} {P : xP} : xAll l P xMT (xMuL nm) 400 (k_L_law_25 P.2.2.2.2.1) := ⟨(show xSim l P xMT (xMuL nm) 400 (i_call (some 11) 108 3 0 0 403) from s_callV 11 (q_X11_read) t_X11_read m_X11_read dL_law_400 rfl (xvc_11) w_765 w_766 w_767 w_764 w_249 h_X11_read ⟨(show q_X11_read.2.2.2.2.frames + 1 ≤ room_1.frames by decide +kernel), (show 8 + (q_X11_read.2.2.1 + 11) + q_X11_read.2.2.2.2.locals ≤ room_1.locals by decide +kernel)⟩), ⟨(show xSim l P xMT (xMuL nm) 403 (i_load x_isA 2 404) from s_aload_n dL_law_403 rfl), ⟨(show xSim l P xMT (xMuL nm) 404 (i_load x_isA 0 405) from s_aload_n dL_law_404 rfl), ⟨(show xSim l P xMT (xMuL nm) 405 (i_load x_isI 3 406) from s_iload_n dL_law_405 rfl), ⟨(show xSim l P xMT (xMuL nm) 406 (i_push (.inl (.int (Int32.ofNat 1))) 407) from s_iconst (Int32.ofNat 1) dL_law_406 (by decide +kernel)), ⟨(show xSim l P xMT (xMuL nm) 407 (i_bin32 (fun x y => x + y) 408) from s_iadd dL_law_407), ⟨(show xSim l P xMT (xMuL nm) 408 (i_sld P.2.2.2.2.1 409) from s_sld dL_law_408), ⟨(show xSim l P xMT (xMuL nm) 409 (i_load x_isA 0 410) from s_aload_n dL_law_409 rfl), ⟨(show xSim l P xMT (xMuL nm) 410 (i_load x_isI 3 411) from s_iload_n dL_law_410 rfl), ⟨(show xSim l P xMT (xMuL nm) 411 (i_push (.inl (.int (Int32.ofNat 2))) 412) from s_iconst (Int32.ofNat 2) dL_law_411 (by decide +kernel)), ⟨(show xSim l P xMT (xMuL nm) 412 (i_bin32 (fun x y => x + y) 413) from s_iadd dL_law_412), ⟨(show xSim l P xMT (xMuL nm) 413 (i_sld P.2.2.2.2.1 414) from s_sld dL_law_413), ⟨(show xSim l P xMT (xMuL nm) 414 (i_call (some 12) 191 3 0 0 417) from s_callV 12 (q_X12_read) t_X12_read m_X12_read dL_law_414 rfl (xvc_12) w_769 w_770 w_771 w_768 w_490 h_X12_read ⟨(show q_X12_read.2.2.2.2.frames + 1 ≤ room_1.frames by decide +kernel), (show 8 + (q_X12_read.2.2.1 + 11) + q_X12_read.2.2.2.2.locals ≤ room_1.locals by decide +kernel)⟩), trivial⟩⟩⟩⟩⟩⟩⟩⟩⟩⟩⟩⟩⟩
set_option maxRecDepth 100000 in
theorem o_k_L_law_26 {nm : String} {l : Launch} {P : xP} : xAll l P xMT (xMuL nm) 416 (k_L_law_26 P.2.2.2.2.1) := ⟨(show xSim l P xMT (xMuL nm) 417 (i_lcmp 418) from s_lcmp dL_law_417), ⟨(show xSim l P xMT (xMuL nm) 418 (i_if 2 1754 421) from s_if_eq 1754 dL_law_418 (by decide +kernel)), ⟨(show xSim l P xMT (xMuL nm) 423 (i_load x_isA 1 424) from s_aload_n dL_law_423 rfl), ⟨(show xSim l P xMT (xMuL nm) 424 (i_load x_isA 0 425) from s_aload_n dL_law_424 rfl), ⟨(show xSim l P xMT (xMuL nm) 425 (i_load x_isI 3 426) from s_iload_n dL_law_425 rfl), ⟨(show xSim l P xMT (xMuL nm) 426 (i_push (.inl (.int (Int32.ofNat 1))) 427) from s_iconst (Int32.ofNat 1) dL_law_426 (by decide +kernel)), ⟨(show xSim l P xMT (xMuL nm) 427 (i_bin32 (fun x y => x + y) 428) from s_iadd dL_law_427), ⟨(show xSim l P xMT (xMuL nm) 428 (i_sld P.2.2.2.2.1 429) from s_sld dL_law_428), ⟨(show xSim l P xMT (xMuL nm) 429 (i_load x_isA 0 430) from s_aload_n dL_law_429 rfl), ⟨(show xSim l P xMT (xMuL nm) 430 (i_load x_isI 3 431) from s_iload_n dL_law_430 rfl), ⟨(show xSim l P xMT (xMuL nm) 431 (i_push (.inl (.int (Int32.ofNat 2))) 432) from s_iconst (Int32.ofNat 2) dL_law_431 (by decide +kernel)), trivial⟩⟩⟩⟩⟩⟩⟩⟩⟩⟩⟩
set_option maxRecDepth 100000 in
theorem o_k_L_law_27 {nm : String} {l : Launch} {P : xP} : xAll l P xMT (xMuL nm) 432 (k_L_law_27 P.2.2.2.2.1) := ⟨(show xSim l P xMT (xMuL nm) 432 (i_bin32 (fun x y => x + y) 433) from s_iadd dL_law_432), ⟨(show xSim l P xMT (xMuL nm) 433 (i_sld P.2.2.2.2.1 434) from s_sld dL_law_433), ⟨(show xSim l P xMT (xMuL nm) 434 (i_load x_isA 0 435) from s_aload_n dL_law_434 rfl), ⟨(show xSim l P xMT (xMuL nm) 435 (i_load x_isI 3 436) from s_iload_n dL_law_435 rfl), ⟨(show xSim l P xMT (xMuL nm) 436 (i_push (.inl (.int (Int32.ofNat 3))) 437) from s_iconst (Int32.ofNat 3) dL_law_436 (by decide +kernel)), ⟨(show xSim l P xMT (xMuL nm) 437 (i_bin32 (fun x y => x + y) 438) from s_iadd dL_law_437), ⟨(show xSim l P xMT (xMuL nm) 438 (i_sld P.2.2.2.2.1 439) from s_sld dL_law_438), ⟨(show xSim l P xMT (xMuL nm) 439 (i_load x_isA 0 440) from s_aload_n dL_law_439 rfl), ⟨(show xSim l P xMT (xMuL nm) 440 (i_load x_isI 3 441) from s_iload_n dL_law_440 rfl), ⟨(show xSim l P xMT (xMuL nm) 441 (i_push (.inl (.int (Int32.ofNat 4))) 442) from s_iconst (Int32.ofNat 4) dL_law_441 (by decide +kernel)), ⟨(show xSim l P xMT (xMuL nm) 442 (i_bin32 (fun x y => x + y) 443) from s_iadd dL_law_442), ⟨(show xSim l P xMT (xMuL nm) 443 (i_sld P.2.2.2.2.1 444) from s_sld dL_law_443), ⟨(show xSim l P xMT (xMuL nm) 444 (i_load x_isA 0 445) from s_aload_n dL_law_444 rfl), ⟨(show xSim l P xMT (xMuL nm) 445 (i_load x_isI 3 446) from s_iload_n dL_law_445 rfl), ⟨(show xSim l P xMT (xMuL nm) 446 (i_push (.inl (.int (Int32.ofNat 5))) 447) from s_iconst (Int32.ofNat 5) dL_law_446 (by decide +kernel)), ⟨(show xSim l P xMT (xMuL nm) 447 (i_bin32 (fun x y => x + y) 448) from s_iadd dL_law_447), trivial⟩⟩⟩⟩⟩⟩⟩⟩⟩⟩⟩⟩⟩⟩⟩⟩
set_option maxRecDepth 100000 in
theorem o_k_L_law_28 {nm : String} {l : Launch} {P : xP} : xAll l P xMT (xMuL nm) 448 (k_L_law_28 P.2.2.2.2.1) := ⟨(show xSim l P xMT (xMuL nm) 448 (i_sld P.2.2.2.2.1 449) from s_sld dL_law_448), ⟨(show xSim l P xMT (xMuL nm) 449 (i_call (some 11) 105 6 0 0 452) from s_callV 11 (q_X11_pour) t_X11_pour m_X11_pour dL_law_449 rfl (xvc_11) w_773 w_774 w_775 w_772 w_249 h_X11_pour ⟨(show q_X11_pour.2.2.2.2.frames + 1 ≤ room_1.frames by decide +kernel), (show 8 + (q_X11_pour.2.2.1 + 11) + q_X11_pour.2.2.2.2.locals ≤ room_1.locals by decide +kernel)⟩), ⟨(show xSim l P xMT (xMuL nm) 452 (i_load x_isA 2 453) from s_aload_n dL_law_452 rfl), ⟨(show xSim l P xMT (xMuL nm) 453 (i_load x_isA 0 454) from s_aload_n dL_law_453 rfl), ⟨(show xSim l P xMT (xMuL nm) 454 (i_load x_isI 3 455) from s_iload_n dL_law_454 rfl), ⟨(show xSim l P xMT (xMuL nm) 455 (i_push (.inl (.int (Int32.ofNat 1))) 456) from s_iconst (Int32.ofNat 1) dL_law_455 (by decide +kernel)), ⟨(show xSim l P xMT (xMuL nm) 456 (i_bin32 (fun x y => x + y) 457) from s_iadd dL_law_456), ⟨(show xSim l P xMT (xMuL nm) 457 (i_sld P.2.2.2.2.1 458) from s_sld dL_law_457), ⟨(show xSim l P xMT (xMuL nm) 458 (i_load x_isA 0 459) from s_aload_n dL_law_458 rfl), ⟨(show xSim l P xMT (xMuL nm) 459 (i_load x_isI 3 460) from s_iload_n dL_law_459 rfl), ⟨(show xSim l P xMT (xMuL nm) 460 (i_push (.inl (.int (Int32.ofNat 2))) 461) from s_iconst (Int32.ofNat 2) dL_law_460 (by decide +kernel)), ⟨(show xSim l P xMT (xMuL nm) 461 (i_bin32 (fun x y => x + y) 462) from s_iadd dL_law_461), ⟨(show xSim l P xMT (xMuL nm) 462 (i_sld P.2.2.2.2.1 463) from s_sld dL_law_462), ⟨(show xSim l P xMT (xMuL nm) 463 (i_load x_isA 0 464) from s_aload_n dL_law_463 rfl), trivial⟩⟩⟩⟩⟩⟩⟩⟩⟩⟩⟩⟩⟩⟩
set_option maxRecDepth 100000 in
theorem o_k_L_law_29 {nm : String} {l : Launch} {P : xP} : xAll l P xMT (xMuL nm) 464 (k_L_law_29 P.2.2.2.2.1) := ⟨(show xSim l P xMT (xMuL nm) 464 (i_load x_isI 3 465) from s_iload_n dL_law_464 rfl), ⟨(show xSim l P xMT (xMuL nm) 465 (i_push (.inl (.int (Int32.ofNat 3))) 466) from s_iconst (Int32.ofNat 3) dL_law_465 (by decide +kernel)), ⟨(show xSim l P xMT (xMuL nm) 466 (i_bin32 (fun x y => x + y) 467) from s_iadd dL_law_466), ⟨(show xSim l P xMT (xMuL nm) 467 (i_sld P.2.2.2.2.1 468) from s_sld dL_law_467), ⟨(show xSim l P xMT (xMuL nm) 468 (i_load x_isA 0 469) from s_aload_n dL_law_468 rfl), ⟨(show xSim l P xMT (xMuL nm) 469 (i_load x_isI 3 470) from s_iload_n dL_law_469 rfl), ⟨(show xSim l P xMT (xMuL nm) 470 (i_push (.inl (.int (Int32.ofNat 4))) 471) from s_iconst (Int32.ofNat 4) dL_law_470 (by decide +kernel)), ⟨(show xSim l P xMT (xMuL nm) 471 (i_bin32 (fun x y => x + y) 472) from s_iadd dL_law_471), ⟨(show xSim l P xMT (xMuL nm) 472 (i_sld P.2.2.2.2.1 473) from s_sld dL_law_472), ⟨(show xSim l P xMT (xMuL nm) 473 (i_load x_isA 0 474) from s_aload_n dL_law_473 rfl), ⟨(show xSim l P xMT (xMuL nm) 474 (i_load x_isI 3 475) from s_iload_n dL_law_474 rfl), ⟨(show xSim l P xMT (xMuL nm) 475 (i_push (.inl (.int (Int32.ofNat 5))) 476) from s_iconst (Int32.ofNat 5) dL_law_475 (by decide +kernel)), ⟨(show xSim l P xMT (xMuL nm) 476 (i_bin32 (fun x y => x + y) 477) from s_iadd dL_law_476), ⟨(show xSim l P xMT (xMuL nm) 477 (i_sld P.2.2.2.2.1 478) from s_sld dL_law_477), ⟨(show xSim l P xMT (xMuL nm) 478 (i_call (some 12) 188 6 0 0 481) from s_callV 12 (q_X12_pour) t_X12_pour m_X12_pour dL_law_478 rfl (xvc_12) w_777 w_778 w_779 w_776 w_490 h_X12_pour ⟨(show q_X12_pour.2.2.2.2.frames + 1 ≤ room_1.frames by decide +kernel), (show 8 + (q_X12_pour.2.2.1 + 11) + q_X12_pour.2.2.2.2.locals ≤ room_1.locals by decide +kernel)⟩), trivial⟩⟩⟩⟩⟩⟩⟩⟩⟩⟩⟩⟩⟩⟩⟩
set_option maxRecDepth 100000 in
theorem o_k_L_law_30 {nm : String} {l : Launch} {P : xP} : xAll l P xMT (xMuL nm) 480 (k_L_law_30 P.2.2.2.2.1) := ⟨(show xSim l P xMT (xMuL nm) 481 (i_icmp 2 1754 484) from s_icmp_eq 1754 dL_law_481 (by decide +kernel)), ⟨(show xSim l P xMT (xMuL nm) 486 (i_load x_isA 1 487) from s_aload_n dL_law_486 rfl), ⟨(show xSim l P xMT (xMuL nm) 487 (i_load x_isA 0 488) from s_aload_n dL_law_487 rfl), ⟨(show xSim l P xMT (xMuL nm) 488 (i_load x_isI 3 489) from s_iload_n dL_law_488 rfl), ⟨(show xSim l P xMT (xMuL nm) 489 (i_push (.inl (.int (Int32.ofNat 1))) 490) from s_iconst (Int32.ofNat 1) dL_law_489 (by decide +kernel)), ⟨(show xSim l P xMT (xMuL nm) 490 (i_bin32 (fun x y => x + y) 491) from s_iadd dL_law_490), ⟨(show xSim l P xMT (xMuL nm) 491 (i_sld P.2.2.2.2.1 492) from s_sld dL_law_491), ⟨(show xSim l P xMT (xMuL nm) 492 (i_load x_isA 0 493) from s_aload_n dL_law_492 rfl), ⟨(show xSim l P xMT (xMuL nm) 493 (i_load x_isI 3 494) from s_iload_n dL_law_493 rfl), ⟨(show xSim l P xMT (xMuL nm) 494 (i_push (.inl (.int (Int32.ofNat 2))) 495) from s_iconst (Int32.ofNat 2) dL_law_494 (by decide +kernel)), ⟨(show xSim l P xMT (xMuL nm) 495 (i_bin32 (fun x y => x + y) 496) from s_iadd dL_law_495), trivial⟩⟩⟩⟩⟩⟩⟩⟩⟩⟩⟩
set_option maxRecDepth 100000 in
theorem o_k_L_law_31 {nm : String} {l : Launch} {P : xP} : xAll l P xMT (xMuL nm) 496 (k_L_law_31 P.2.2.2.2.1) := ⟨(show xSim l P xMT (xMuL nm) 496 (i_sld P.2.2.2.2.1 497) from s_sld dL_law_496), ⟨(show xSim l P xMT (xMuL nm) 497 (i_load x_isA 0 498) from s_aload_n dL_law_497 rfl), ⟨(show xSim l P xMT (xMuL nm) 498 (i_load x_isI 3 499) from s_iload_n dL_law_498 rfl), ⟨(show xSim l P xMT (xMuL nm) 499 (i_push (.inl (.int (Int32.ofNat 3))) 500) from s_iconst (Int32.ofNat 3) dL_law_499 (by decide +kernel)), ⟨(show xSim l P xMT (xMuL nm) 500 (i_bin32 (fun x y => x + y) 501) from s_iadd dL_law_500), ⟨(show xSim l P xMT (xMuL nm) 501 (i_sld P.2.2.2.2.1 502) from s_sld dL_law_501), ⟨(show xSim l P xMT (xMuL nm) 502 (i_load x_isA 0 503) from s_aload_n dL_law_502 rfl), ⟨(show xSim l P xMT (xMuL nm) 503 (i_load x_isI 3 504) from s_iload_n dL_law_503 rfl), ⟨(show xSim l P xMT (xMuL nm) 504 (i_push (.inl (.int (Int32.ofNat 4))) 505) from s_iconst (Int32.ofNat 4) dL_law_504 (by decide +kernel)), ⟨(show xSim l P xMT (xMuL nm) 505 (i_bin32 (fun x y => x + y) 506) from s_iadd dL_law_505), ⟨(show xSim l P xMT (xMuL nm) 506 (i_sld P.2.2.2.2.1 507) from s_sld dL_law_506), ⟨(show xSim l P xMT (xMuL nm) 507 (i_load x_isA 0 508) from s_aload_n dL_law_507 rfl), ⟨(show xSim l P xMT (xMuL nm) 508 (i_load x_isI 3 509) from s_iload_n dL_law_508 rfl), ⟨(show xSim l P xMT (xMuL nm) 509 (i_push (.inl (.int (Int32.ofNat 5))) 510) from s_iconst (Int32.ofNat 5) dL_law_509 (by decide +kernel)), ⟨(show xSim l P xMT (xMuL nm) 510 (i_bin32 (fun x y => x + y) 511) from s_iadd dL_law_510), ⟨(show xSim l P xMT (xMuL nm) 511 (i_sld P.2.2.2.2.1 512) from s_sld dL_law_511), trivial⟩⟩⟩⟩⟩⟩⟩⟩⟩⟩⟩⟩⟩⟩⟩⟩
set_option maxRecDepth 100000 in
theorem o_k_L_law_32 {nm : String} {l : Launch} {P : xP} : xAll l P xMT (xMuL nm) 512 (k_L_law_32 P.2.2.2.2.1) := ⟨(show xSim l P xMT (xMuL nm) 512 (i_call (some 11) 87 6 0 0 515) from s_callV 11 (q_X11_feed) t_X11_feed m_X11_feed dL_law_512 rfl (xvc_11) w_781 w_782 w_783 w_780 w_249 h_X11_feed ⟨(show q_X11_feed.2.2.2.2.frames + 1 ≤ room_1.frames by decide +kernel), (show 8 + (q_X11_feed.2.2.1 + 11) + q_X11_feed.2.2.2.2.locals ≤ room_1.locals by decide +kernel)⟩), ⟨(show xSim l P xMT (xMuL nm) 515 (i_load x_isA 2 516) from s_aload_n dL_law_515 rfl), ⟨(show xSim l P xMT (xMuL nm) 516 (i_load x_isA 0 517) from s_aload_n dL_law_516 rfl), ⟨(show xSim l P xMT (xMuL nm) 517 (i_load x_isI 3 518) from s_iload_n dL_law_517 rfl), ⟨(show xSim l P xMT (xMuL nm) 518 (i_push (.inl (.int (Int32.ofNat 1))) 519) from s_iconst (Int32.ofNat 1) dL_law_518 (by decide +kernel)), ⟨(show xSim l P xMT (xMuL nm) 519 (i_bin32 (fun x y => x + y) 520) from s_iadd dL_law_519), ⟨(show xSim l P xMT (xMuL nm) 520 (i_sld P.2.2.2.2.1 521) from s_sld dL_law_520), ⟨(show xSim l P xMT (xMuL nm) 521 (i_load x_isA 0 522) from s_aload_n dL_law_521 rfl), ⟨(show xSim l P xMT (xMuL nm) 522 (i_load x_isI 3 523) from s_iload_n dL_law_522 rfl), ⟨(show xSim l P xMT (xMuL nm) 523 (i_push (.inl (.int (Int32.ofNat 2))) 524) from s_iconst (Int32.ofNat 2) dL_law_523 (by decide +kernel)), ⟨(show xSim l P xMT (xMuL nm) 524 (i_bin32 (fun x y => x + y) 525) from s_iadd dL_law_524), ⟨(show xSim l P xMT (xMuL nm) 525 (i_sld P.2.2.2.2.1 526) from s_sld dL_law_525), ⟨(show xSim l P xMT (xMuL nm) 526 (i_load x_isA 0 527) from s_aload_n dL_law_526 rfl), ⟨(show xSim l P xMT (xMuL nm) 527 (i_load x_isI 3 528) from s_iload_n dL_law_527 rfl), trivial⟩⟩⟩⟩⟩⟩⟩⟩⟩⟩⟩⟩⟩⟩
set_option maxRecDepth 100000 in
theorem o_k_L_law_33 {nm : String} {l : Launch} {P : xP} : xAll l P xMT (xMuL nm) 528 (k_L_law_33 P.2.2.2.2.1) := ⟨(show xSim l P xMT (xMuL nm) 528 (i_push (.inl (.int (Int32.ofNat 3))) 529) from s_iconst (Int32.ofNat 3) dL_law_528 (by decide +kernel)), ⟨(show xSim l P xMT (xMuL nm) 529 (i_bin32 (fun x y => x + y) 530) from s_iadd dL_law_529), ⟨(show xSim l P xMT (xMuL nm) 530 (i_sld P.2.2.2.2.1 531) from s_sld dL_law_530), ⟨(show xSim l P xMT (xMuL nm) 531 (i_load x_isA 0 532) from s_aload_n dL_law_531 rfl), ⟨(show xSim l P xMT (xMuL nm) 532 (i_load x_isI 3 533) from s_iload_n dL_law_532 rfl), ⟨(show xSim l P xMT (xMuL nm) 533 (i_push (.inl (.int (Int32.ofNat 4))) 534) from s_iconst (Int32.ofNat 4) dL_law_533 (by decide +kernel)), ⟨(show xSim l P xMT (xMuL nm) 534 (i_bin32 (fun x y => x + y) 535) from s_iadd dL_law_534), ⟨(show xSim l P xMT (xMuL nm) 535 (i_sld P.2.2.2.2.1 536) from s_sld dL_law_535), ⟨(show xSim l P xMT (xMuL nm) 536 (i_load x_isA 0 537) from s_aload_n dL_law_536 rfl), ⟨(show xSim l P xMT (xMuL nm) 537 (i_load x_isI 3 538) from s_iload_n dL_law_537 rfl), ⟨(show xSim l P xMT (xMuL nm) 538 (i_push (.inl (.int (Int32.ofNat 5))) 539) from s_iconst (Int32.ofNat 5) dL_law_538 (by decide +kernel)), ⟨(show xSim l P xMT (xMuL nm) 539 (i_bin32 (fun x y => x + y) 540) from s_iadd dL_law_539), ⟨(show xSim l P xMT (xMuL nm) 540 (i_sld P.2.2.2.2.1 541) from s_sld dL_law_540), ⟨(show xSim l P xMT (xMuL nm) 541 (i_call (some 12) 148 6 0 0 544) from s_callV 12 (q_X12_feed) t_X12_feed m_X12_feed dL_law_541 rfl (xvc_12) w_785 w_786 w_787 w_784 w_490 h_X12_feed ⟨(show q_X12_feed.2.2.2.2.frames + 1 ≤ room_1.frames by decide +kernel), (show 8 + (q_X12_feed.2.2.1 + 11) + q_X12_feed.2.2.2.2.locals ≤ room_1.locals by decide +kernel)⟩), trivial⟩⟩⟩⟩⟩⟩⟩⟩⟩⟩⟩⟩⟩⟩
set_option maxRecDepth 100000 in
theorem o_k_L_law_34 {nm : String} {l : Launch} {P : xP} : xAll l P xMT (xMuL nm) 544 (k_L_law_34 P.2.2.2.2.1) := ⟨(show xSim l P xMT (xMuL nm) 544 (i_icmp 2 1754 547) from s_icmp_eq 1754 dL_law_544 (by decide +kernel)), ⟨(show xSim l P xMT (xMuL nm) 549 (i_load x_isA 1 550) from s_aload_n dL_law_549 rfl), ⟨(show xSim l P xMT (xMuL nm) 550 (i_load x_isA 0 551) from s_aload_n dL_law_550 rfl), ⟨(show xSim l P xMT (xMuL nm) 551 (i_load x_isI 3 552) from s_iload_n dL_law_551 rfl), ⟨(show xSim l P xMT (xMuL nm) 552 (i_push (.inl (.int (Int32.ofNat 1))) 553) from s_iconst (Int32.ofNat 1) dL_law_552 (by decide +kernel)), ⟨(show xSim l P xMT (xMuL nm) 553 (i_bin32 (fun x y => x + y) 554) from s_iadd dL_law_553), ⟨(show xSim l P xMT (xMuL nm) 554 (i_sld P.2.2.2.2.1 555) from s_sld dL_law_554), ⟨(show xSim l P xMT (xMuL nm) 555 (i_call (some 11) 95 2 0 0 558) from s_callV 11 (q_X11_land) t_X11_land m_X11_land dL_law_555 rfl (xvc_11) w_789 w_790 w_791 w_788 w_249 h_X11_land ⟨(show q_X11_land.2.2.2.2.frames + 1 ≤ room_1.frames by decide +kernel), (show 8 + (q_X11_land.2.2.1 + 11) + q_X11_land.2.2.2.2.locals ≤ room_1.locals by decide +kernel)⟩), ⟨(show xSim l P xMT (xMuL nm) 558 (i_load x_isA 2 559) from s_aload_n dL_law_558 rfl), ⟨(show xSim l P xMT (xMuL nm) 559 (i_load x_isA 0 560) from s_aload_n dL_law_559 rfl), trivial⟩⟩⟩⟩⟩⟩⟩⟩⟩⟩
set_option maxRecDepth 100000 in
theorem o_k_L_law_35 {nm : String} {l : Launch} {P : xP} : xAll l P xMT (xMuL nm) 560 (k_L_law_35 P.2.2.2.2.1) := ⟨(show xSim l P xMT (xMuL nm) 560 (i_load x_isI 3 561) from s_iload_n dL_law_560 rfl), ⟨(show xSim l P xMT (xMuL nm) 561 (i_push (.inl (.int (Int32.ofNat 1))) 562) from s_iconst (Int32.ofNat 1) dL_law_561 (by decide +kernel)), ⟨(show xSim l P xMT (xMuL nm) 562 (i_bin32 (fun x y => x + y) 563) from s_iadd dL_law_562), ⟨(show xSim l P xMT (xMuL nm) 563 (i_sld P.2.2.2.2.1 564) from s_sld dL_law_563), ⟨(show xSim l P xMT (xMuL nm) 564 (i_call (some 12) 170 2 0 0 567) from s_callV 12 (q_X12_land) t_X12_land m_X12_land dL_law_564 rfl (xvc_12) w_793 w_794 w_795 w_792 w_490 h_X12_land ⟨(show q_X12_land.2.2.2.2.frames + 1 ≤ room_1.frames by decide +kernel), (show 8 + (q_X12_land.2.2.1 + 11) + q_X12_land.2.2.2.2.locals ≤ room_1.locals by decide +kernel)⟩), ⟨(show xSim l P xMT (xMuL nm) 567 (i_icmp 2 1754 570) from s_icmp_eq 1754 dL_law_567 (by decide +kernel)), ⟨(show xSim l P xMT (xMuL nm) 572 (i_load x_isA 1 573) from s_aload_n dL_law_572 rfl), ⟨(show xSim l P xMT (xMuL nm) 573 (i_load x_isA 0 574) from s_aload_n dL_law_573 rfl), ⟨(show xSim l P xMT (xMuL nm) 574 (i_load x_isI 3 575) from s_iload_n dL_law_574 rfl), ⟨(show xSim l P xMT (xMuL nm) 575 (i_push (.inl (.int (Int32.ofNat 1))) 576) from s_iconst (Int32.ofNat 1) dL_law_575 (by decide +kernel)), trivial⟩⟩⟩⟩⟩⟩⟩⟩⟩⟩
set_option maxRecDepth 100000 in
theorem o_k_L_law_36 {nm : String} {l : Launch} {P : xP} : xAll l P xMT (xMuL nm) 576 (k_L_law_36 P.2.2.2.2.1) := ⟨(show xSim l P xMT (xMuL nm) 576 (i_bin32 (fun x y => x + y) 577) from s_iadd dL_law_576), ⟨(show xSim l P xMT (xMuL nm) 577 (i_sld P.2.2.2.2.1 578) from s_sld dL_law_577), ⟨(show xSim l P xMT (xMuL nm) 578 (i_call (some 11) 103 2 0 0 581) from s_callV 11 (q_X11_orders) t_X11_orders m_X11_orders dL_law_578 rfl (xvc_11) w_797 w_798 w_799 w_796 w_249 h_X11_orders ⟨(show q_X11_orders.2.2.2.2.frames + 1 ≤ room_1.frames by decide +kernel), (show 8 + (q_X11_orders.2.2.1 + 11) + q_X11_orders.2.2.2.2.locals ≤ room_1.locals by decide +kernel)⟩), ⟨(show xSim l P xMT (xMuL nm) 581 (i_load x_isA 2 582) from s_aload_n dL_law_581 rfl), ⟨(show xSim l P xMT (xMuL nm) 582 (i_load x_isA 0 583) from s_aload_n dL_law_582 rfl), ⟨(show xSim l P xMT (xMuL nm) 583 (i_load x_isI 3 584) from s_iload_n dL_law_583 rfl), ⟨(show xSim l P xMT (xMuL nm) 584 (i_push (.inl (.int (Int32.ofNat 1))) 585) from s_iconst (Int32.ofNat 1) dL_law_584 (by decide +kernel)), ⟨(show xSim l P xMT (xMuL nm) 585 (i_bin32 (fun x y => x + y) 586) from s_iadd dL_law_585), ⟨(show xSim l P xMT (xMuL nm) 586 (i_sld P.2.2.2.2.1 587) from s_sld dL_law_586), ⟨(show xSim l P xMT (xMuL nm) 587 (i_call (some 12) 186 2 0 0 590) from s_callV 12 (q_X12_orders) t_X12_orders m_X12_orders dL_law_587 rfl (xvc_12) w_801 w_802 w_803 w_800 w_490 h_X12_orders ⟨(show q_X12_orders.2.2.2.2.frames + 1 ≤ room_1.frames by decide +kernel), (show 8 + (q_X12_orders.2.2.1 + 11) + q_X12_orders.2.2.2.2.locals ≤ room_1.locals by decide +kernel)⟩), ⟨(show xSim l P xMT (xMuL nm) 590 (i_icmp 2 1754 593) from s_icmp_eq 1754 dL_law_590 (by decide +kernel)), trivial⟩⟩⟩⟩⟩⟩⟩⟩⟩⟩⟩
set_option maxRecDepth 100000 in
theorem o_k_L_law_37 {nm : String} {l : Launch} {P : xP} : xAll l P xMT (xMuL nm) 592 (k_L_law_37 P.2.2.2.2.1) := ⟨(show xSim l P xMT (xMuL nm) 595 (i_load x_isA 1 596) from s_aload_n dL_law_595 rfl), ⟨(show xSim l P xMT (xMuL nm) 596 (i_load x_isA 0 597) from s_aload_n dL_law_596 rfl), ⟨(show xSim l P xMT (xMuL nm) 597 (i_load x_isI 3 598) from s_iload_n dL_law_597 rfl), ⟨(show xSim l P xMT (xMuL nm) 598 (i_push (.inl (.int (Int32.ofNat 1))) 599) from s_iconst (Int32.ofNat 1) dL_law_598 (by decide +kernel)), ⟨(show xSim l P xMT (xMuL nm) 599 (i_bin32 (fun x y => x + y) 600) from s_iadd dL_law_599), ⟨(show xSim l P xMT (xMuL nm) 600 (i_sld P.2.2.2.2.1 601) from s_sld dL_law_600), ⟨(show xSim l P xMT (xMuL nm) 601 (i_call (some 11) 86 2 0 0 604) from s_callV 11 (q_X11_fault) t_X11_fault m_X11_fault dL_law_601 rfl (xvc_11) w_805 w_806 w_807 w_804 w_249 h_X11_fault ⟨(show q_X11_fault.2.2.2.2.frames + 1 ≤ room_1.frames by decide +kernel), (show 8 + (q_X11_fault.2.2.1 + 11) + q_X11_fault.2.2.2.2.locals ≤ room_1.locals by decide +kernel)⟩), ⟨(show xSim l P xMT (xMuL nm) 604 (i_load x_isA 2 605) from s_aload_n dL_law_604 rfl), ⟨(show xSim l P xMT (xMuL nm) 605 (i_load x_isA 0 606) from s_aload_n dL_law_605 rfl), ⟨(show xSim l P xMT (xMuL nm) 606 (i_load x_isI 3 607) from s_iload_n dL_law_606 rfl), ⟨(show xSim l P xMT (xMuL nm) 607 (i_push (.inl (.int (Int32.ofNat 1))) 608) from s_iconst (Int32.ofNat 1) dL_law_607 (by decide +kernel)), trivial⟩⟩⟩⟩⟩⟩⟩⟩⟩⟩⟩
set_option maxRecDepth 100000 in
theorem o_k_L_law_38 {nm : String} {l : Launch} {P : xP} : xAll l P xMT (xMuL nm) 608 (k_L_law_38 P.2.2.2.2.1) := ⟨(show xSim l P xMT (xMuL nm) 608 (i_bin32 (fun x y => x + y) 609) from s_iadd dL_law_608), ⟨(show xSim l P xMT (xMuL nm) 609 (i_sld P.2.2.2.2.1 610) from s_sld dL_law_609), ⟨(show xSim l P xMT (xMuL nm) 610 (i_call (some 12) 147 2 0 0 613) from s_callV 12 (q_X12_fault) t_X12_fault m_X12_fault dL_law_610 rfl (xvc_12) w_809 w_810 w_811 w_808 w_490 h_X12_fault ⟨(show q_X12_fault.2.2.2.2.frames + 1 ≤ room_1.frames by decide +kernel), (show 8 + (q_X12_fault.2.2.1 + 11) + q_X12_fault.2.2.2.2.locals ≤ room_1.locals by decide +kernel)⟩), ⟨(show xSim l P xMT (xMuL nm) 613 (i_icmp 2 1754 616) from s_icmp_eq 1754 dL_law_613 (by decide +kernel)), ⟨(show xSim l P xMT (xMuL nm) 618 (i_load x_isA 1 619) from s_aload_n dL_law_618 rfl), ⟨(show xSim l P xMT (xMuL nm) 619 (i_load x_isA 0 620) from s_aload_n dL_law_619 rfl), ⟨(show xSim l P xMT (xMuL nm) 620 (i_load x_isI 3 621) from s_iload_n dL_law_620 rfl), ⟨(show xSim l P xMT (xMuL nm) 621 (i_push (.inl (.int (Int32.ofNat 1))) 622) from s_iconst (Int32.ofNat 1) dL_law_621 (by decide +kernel)), ⟨(show xSim l P xMT (xMuL nm) 622 (i_bin32 (fun x y => x + y) 623) from s_iadd dL_law_622), ⟨(show xSim l P xMT (xMuL nm) 623 (i_sld P.2.2.2.2.1 624) from s_sld dL_law_623), trivial⟩⟩⟩⟩⟩⟩⟩⟩⟩⟩
set_option maxRecDepth 100000 in
theorem o_k_L_law_39 {nm : String} {l : Launch} {P : xP} : xAll l P xMT (xMuL nm) 624 (k_L_law_39 P.2.2.2.2.1) := ⟨(show xSim l P xMT (xMuL nm) 624 (i_call (some 11) 96 2 0 0 627) from s_callV 11 (q_X11_many) t_X11_many m_X11_many dL_law_624 rfl (xvc_11) w_813 w_814 w_815 w_812 w_249 h_X11_many ⟨(show q_X11_many.2.2.2.2.frames + 1 ≤ room_1.frames by decide +kernel), (show 8 + (q_X11_many.2.2.1 + 11) + q_X11_many.2.2.2.2.locals ≤ room_1.locals by decide +kernel)⟩), ⟨(show xSim l P xMT (xMuL nm) 627 (i_load x_isA 2 628) from s_aload_n dL_law_627 rfl), ⟨(show xSim l P xMT (xMuL nm) 628 (i_load x_isA 0 629) from s_aload_n dL_law_628 rfl), ⟨(show xSim l P xMT (xMuL nm) 629 (i_load x_isI 3 630) from s_iload_n dL_law_629 rfl), ⟨(show xSim l P xMT (xMuL nm) 630 (i_push (.inl (.int (Int32.ofNat 1))) 631) from s_iconst (Int32.ofNat 1) dL_law_630 (by decide +kernel)), ⟨(show xSim l P xMT (xMuL nm) 631 (i_bin32 (fun x y => x + y) 632) from s_iadd dL_law_631), ⟨(show xSim l P xMT (xMuL nm) 632 (i_sld P.2.2.2.2.1 633) from s_sld dL_law_632), ⟨(show xSim l P xMT (xMuL nm) 633 (i_call (some 12) 174 2 0 0 636) from s_callV 12 (q_X12_many) t_X12_many m_X12_many dL_law_633 rfl (xvc_12) w_817 w_818 w_819 w_816 w_490 h_X12_many ⟨(show q_X12_many.2.2.2.2.frames + 1 ≤ room_1.frames by decide +kernel), (show 8 + (q_X12_many.2.2.1 + 11) + q_X12_many.2.2.2.2.locals ≤ room_1.locals by decide +kernel)⟩), ⟨(show xSim l P xMT (xMuL nm) 636 (i_icmp 2 1754 639) from s_icmp_eq 1754 dL_law_636 (by decide +kernel)), trivial⟩⟩⟩⟩⟩⟩⟩⟩⟩
set_option maxRecDepth 100000 in
theorem o_k_L_law_40 {nm : String} {l : Launch} {P : xP} : xAll l P xMT (xMuL nm) 640 (k_L_law_40 P.2.2.2.2.1) := ⟨(show xSim l P xMT (xMuL nm) 641 (i_load x_isA 1 642) from s_aload_n dL_law_641 rfl), ⟨(show xSim l P xMT (xMuL nm) 642 (i_load x_isA 0 643) from s_aload_n dL_law_642 rfl), ⟨(show xSim l P xMT (xMuL nm) 643 (i_load x_isI 3 644) from s_iload_n dL_law_643 rfl), ⟨(show xSim l P xMT (xMuL nm) 644 (i_push (.inl (.int (Int32.ofNat 1))) 645) from s_iconst (Int32.ofNat 1) dL_law_644 (by decide +kernel)), ⟨(show xSim l P xMT (xMuL nm) 645 (i_bin32 (fun x y => x + y) 646) from s_iadd dL_law_645), ⟨(show xSim l P xMT (xMuL nm) 646 (i_sld P.2.2.2.2.1 647) from s_sld dL_law_646), ⟨(show xSim l P xMT (xMuL nm) 647 (i_load x_isA 0 648) from s_aload_n dL_law_647 rfl), ⟨(show xSim l P xMT (xMuL nm) 648 (i_load x_isI 3 649) from s_iload_n dL_law_648 rfl), ⟨(show xSim l P xMT (xMuL nm) 649 (i_push (.inl (.int (Int32.ofNat 2))) 650) from s_iconst (Int32.ofNat 2) dL_law_649 (by decide +kernel)), ⟨(show xSim l P xMT (xMuL nm) 650 (i_bin32 (fun x y => x + y) 651) from s_iadd dL_law_650), ⟨(show xSim l P xMT (xMuL nm) 651 (i_sld P.2.2.2.2.1 652) from s_sld dL_law_651), ⟨(show xSim l P xMT (xMuL nm) 652 (i_load x_isA 0 653) from s_aload_n dL_law_652 rfl), ⟨(show xSim l P xMT (xMuL nm) 653 (i_load x_isI 3 654) from s_iload_n dL_law_653 rfl), ⟨(show xSim l P xMT (xMuL nm) 654 (i_push (.inl (.int (Int32.ofNat 3))) 655) from s_iconst (Int32.ofNat 3) dL_law_654 (by decide +kernel)), ⟨(show xSim l P xMT (xMuL nm) 655 (i_bin32 (fun x y => x + y) 656) from s_iadd dL_law_655), trivial⟩⟩⟩⟩⟩⟩⟩⟩⟩⟩⟩⟩⟩⟩⟩
set_option maxRecDepth 100000 in
theorem o_k_L_law_41 {nm : String} {l : Launch} {P : xP} : xAll l P xMT (xMuL nm) 656 (k_L_law_41 P.2.2.2.2.1) := ⟨(show xSim l P xMT (xMuL nm) 656 (i_sld P.2.2.2.2.1 657) from s_sld dL_law_656), ⟨(show xSim l P xMT (xMuL nm) 657 (i_call (some 11) 88 4 0 0 660) from s_callV 11 (q_X11_ground) t_X11_ground m_X11_ground dL_law_657 rfl (xvc_11) w_821 w_822 w_823 w_820 w_249 h_X11_ground ⟨(show q_X11_ground.2.2.2.2.frames + 1 ≤ room_1.frames by decide +kernel), (show 8 + (q_X11_ground.2.2.1 + 11) + q_X11_ground.2.2.2.2.locals ≤ room_1.locals by decide +kernel)⟩), ⟨(show xSim l P xMT (xMuL nm) 660 (i_load x_isA 2 661) from s_aload_n dL_law_660 rfl), ⟨(show xSim l P xMT (xMuL nm) 661 (i_load x_isA 0 662) from s_aload_n dL_law_661 rfl), ⟨(show xSim l P xMT (xMuL nm) 662 (i_load x_isI 3 663) from s_iload_n dL_law_662 rfl), ⟨(show xSim l P xMT (xMuL nm) 663 (i_push (.inl (.int (Int32.ofNat 1))) 664) from s_iconst (Int32.ofNat 1) dL_law_663 (by decide +kernel)), ⟨(show xSim l P xMT (xMuL nm) 664 (i_bin32 (fun x y => x + y) 665) from s_iadd dL_law_664), ⟨(show xSim l P xMT (xMuL nm) 665 (i_sld P.2.2.2.2.1 666) from s_sld dL_law_665), ⟨(show xSim l P xMT (xMuL nm) 666 (i_load x_isA 0 667) from s_aload_n dL_law_666 rfl), ⟨(show xSim l P xMT (xMuL nm) 667 (i_load x_isI 3 668) from s_iload_n dL_law_667 rfl), ⟨(show xSim l P xMT (xMuL nm) 668 (i_push (.inl (.int (Int32.ofNat 2))) 669) from s_iconst (Int32.ofNat 2) dL_law_668 (by decide +kernel)), ⟨(show xSim l P xMT (xMuL nm) 669 (i_bin32 (fun x y => x + y) 670) from s_iadd dL_law_669), ⟨(show xSim l P xMT (xMuL nm) 670 (i_sld P.2.2.2.2.1 671) from s_sld dL_law_670), ⟨(show xSim l P xMT (xMuL nm) 671 (i_load x_isA 0 672) from s_aload_n dL_law_671 rfl), trivial⟩⟩⟩⟩⟩⟩⟩⟩⟩⟩⟩⟩⟩⟩
set_option maxRecDepth 100000 in
theorem o_k_L_law_42 {nm : String} {l : Launch} {P : xP} : xAll l P xMT (xMuL nm) 672 (k_L_law_42 P.2.2.2.2.1) := ⟨(show xSim l P xMT (xMuL nm) 672 (i_load x_isI 3 673) from s_iload_n dL_law_672 rfl), ⟨(show xSim l P xMT (xMuL nm) 673 (i_push (.inl (.int (Int32.ofNat 3))) 674) from s_iconst (Int32.ofNat 3) dL_law_673 (by decide +kernel)), ⟨(show xSim l P xMT (xMuL nm) 674 (i_bin32 (fun x y => x + y) 675) from s_iadd dL_law_674), ⟨(show xSim l P xMT (xMuL nm) 675 (i_sld P.2.2.2.2.1 676) from s_sld dL_law_675), ⟨(show xSim l P xMT (xMuL nm) 676 (i_call (some 12) 152 4 0 0 679) from s_callV 12 (q_X12_ground) t_X12_ground m_X12_ground dL_law_676 rfl (xvc_12) w_825 w_826 w_827 w_824 w_490 h_X12_ground ⟨(show q_X12_ground.2.2.2.2.frames + 1 ≤ room_1.frames by decide +kernel), (show 8 + (q_X12_ground.2.2.1 + 11) + q_X12_ground.2.2.2.2.locals ≤ room_1.locals by decide +kernel)⟩), ⟨(show xSim l P xMT (xMuL nm) 679 (i_icmp 2 1754 682) from s_icmp_eq 1754 dL_law_679 (by decide +kernel)), ⟨(show xSim l P xMT (xMuL nm) 684 (i_load x_isA 1 685) from s_aload_n dL_law_684 rfl), ⟨(show xSim l P xMT (xMuL nm) 685 (i_load x_isA 0 686) from s_aload_n dL_law_685 rfl), ⟨(show xSim l P xMT (xMuL nm) 686 (i_load x_isI 3 687) from s_iload_n dL_law_686 rfl), ⟨(show xSim l P xMT (xMuL nm) 687 (i_push (.inl (.int (Int32.ofNat 1))) 688) from s_iconst (Int32.ofNat 1) dL_law_687 (by decide +kernel)), trivial⟩⟩⟩⟩⟩⟩⟩⟩⟩⟩
set_option maxRecDepth 100000 in
theorem o_k_L_law_43 {nm : String} {l : Launch} {P : xP} : xAll l P xMT (xMuL nm) 688 (k_L_law_43 P.2.2.2.2.1) := ⟨(show xSim l P xMT (xMuL nm) 688 (i_bin32 (fun x y => x + y) 689) from s_iadd dL_law_688), ⟨(show xSim l P xMT (xMuL nm) 689 (i_sld P.2.2.2.2.1 690) from s_sld dL_law_689), ⟨(show xSim l P xMT (xMuL nm) 690 (i_load x_isA 0 691) from s_aload_n dL_law_690 rfl), ⟨(show xSim l P xMT (xMuL nm) 691 (i_load x_isI 3 692) from s_iload_n dL_law_691 rfl), ⟨(show xSim l P xMT (xMuL nm) 692 (i_push (.inl (.int (Int32.ofNat 2))) 693) from s_iconst (Int32.ofNat 2) dL_law_692 (by decide +kernel)), ⟨(show xSim l P xMT (xMuL nm) 693 (i_bin32 (fun x y => x + y) 694) from s_iadd dL_law_693), ⟨(show xSim l P xMT (xMuL nm) 694 (i_sld P.2.2.2.2.1 695) from s_sld dL_law_694), ⟨(show xSim l P xMT (xMuL nm) 695 (i_load x_isA 0 696) from s_aload_n dL_law_695 rfl), ⟨(show xSim l P xMT (xMuL nm) 696 (i_load x_isI 3 697) from s_iload_n dL_law_696 rfl), ⟨(show xSim l P xMT (xMuL nm) 697 (i_push (.inl (.int (Int32.ofNat 3))) 698) from s_iconst (Int32.ofNat 3) dL_law_697 (by decide +kernel)), ⟨(show xSim l P xMT (xMuL nm) 698 (i_bin32 (fun x y => x + y) 699) from s_iadd dL_law_698), ⟨(show xSim l P xMT (xMuL nm) 699 (i_sld P.2.2.2.2.1 700) from s_sld dL_law_699), ⟨(show xSim l P xMT (xMuL nm) 700 (i_call (some 11) 80 4 0 0 703) from s_callV 11 (q_X11_cell) t_X11_cell m_X11_cell dL_law_700 rfl (xvc_11) w_829 w_830 w_831 w_828 w_249 h_X11_cell ⟨(show q_X11_cell.2.2.2.2.frames + 1 ≤ room_1.frames by decide +kernel), (show 8 + (q_X11_cell.2.2.1 + 11) + q_X11_cell.2.2.2.2.locals ≤ room_1.locals by decide +kernel)⟩), ⟨(show xSim l P xMT (xMuL nm) 703 (i_load x_isA 2 704) from s_aload_n dL_law_703 rfl), trivial⟩⟩⟩⟩⟩⟩⟩⟩⟩⟩⟩⟩⟩⟩
set_option maxRecDepth 100000 in
theorem o_k_L_law_44 {nm : String} {l : Launch} {P : xP} : xAll l P xMT (xMuL nm) 704 (k_L_law_44 P.2.2.2.2.1) := ⟨(show xSim l P xMT (xMuL nm) 704 (i_load x_isA 0 705) from s_aload_n dL_law_704 rfl), ⟨(show xSim l P xMT (xMuL nm) 705 (i_load x_isI 3 706) from s_iload_n dL_law_705 rfl), ⟨(show xSim l P xMT (xMuL nm) 706 (i_push (.inl (.int (Int32.ofNat 1))) 707) from s_iconst (Int32.ofNat 1) dL_law_706 (by decide +kernel)), ⟨(show xSim l P xMT (xMuL nm) 707 (i_bin32 (fun x y => x + y) 708) from s_iadd dL_law_707), ⟨(show xSim l P xMT (xMuL nm) 708 (i_sld P.2.2.2.2.1 709) from s_sld dL_law_708), ⟨(show xSim l P xMT (xMuL nm) 709 (i_load x_isA 0 710) from s_aload_n dL_law_709 rfl), ⟨(show xSim l P xMT (xMuL nm) 710 (i_load x_isI 3 711) from s_iload_n dL_law_710 rfl), ⟨(show xSim l P xMT (xMuL nm) 711 (i_push (.inl (.int (Int32.ofNat 2))) 712) from s_iconst (Int32.ofNat 2) dL_law_711 (by decide +kernel)), ⟨(show xSim l P xMT (xMuL nm) 712 (i_bin32 (fun x y => x + y) 713) from s_iadd dL_law_712), ⟨(show xSim l P xMT (xMuL nm) 713 (i_sld P.2.2.2.2.1 714) from s_sld dL_law_713), ⟨(show xSim l P xMT (xMuL nm) 714 (i_load x_isA 0 715) from s_aload_n dL_law_714 rfl), ⟨(show xSim l P xMT (xMuL nm) 715 (i_load x_isI 3 716) from s_iload_n dL_law_715 rfl), ⟨(show xSim l P xMT (xMuL nm) 716 (i_push (.inl (.int (Int32.ofNat 3))) 717) from s_iconst (Int32.ofNat 3) dL_law_716 (by decide +kernel)), ⟨(show xSim l P xMT (xMuL nm) 717 (i_bin32 (fun x y => x + y) 718) from s_iadd dL_law_717), ⟨(show xSim l P xMT (xMuL nm) 718 (i_sld P.2.2.2.2.1 719) from s_sld dL_law_718), ⟨(show xSim l P xMT (xMuL nm) 719 (i_call (some 12) 137 4 0 0 722) from s_callV 12 (q_X12_cell) t_X12_cell m_X12_cell dL_law_719 rfl (xvc_12) w_833 w_834 w_835 w_832 w_490 h_X12_cell ⟨(show q_X12_cell.2.2.2.2.frames + 1 ≤ room_1.frames by decide +kernel), (show 8 + (q_X12_cell.2.2.1 + 11) + q_X12_cell.2.2.2.2.locals ≤ room_1.locals by decide +kernel)⟩), trivial⟩⟩⟩⟩⟩⟩⟩⟩⟩⟩⟩⟩⟩⟩⟩⟩
set_option maxRecDepth 100000 in
theorem o_k_L_law_45 {nm : String} {l : Launch} {P : xP} : xAll l P xMT (xMuL nm) 720 (k_L_law_45 P.2.2.2.2.1) := ⟨(show xSim l P xMT (xMuL nm) 722 (i_icmp 2 1754 725) from s_icmp_eq 1754 dL_law_722 (by decide +kernel)), ⟨(show xSim l P xMT (xMuL nm) 727 (i_load x_isA 1 728) from s_aload_n dL_law_727 rfl), ⟨(show xSim l P xMT (xMuL nm) 728 (i_load x_isA 0 729) from s_aload_n dL_law_728 rfl), ⟨(show xSim l P xMT (xMuL nm) 729 (i_load x_isI 3 730) from s_iload_n dL_law_729 rfl), ⟨(show xSim l P xMT (xMuL nm) 730 (i_push (.inl (.int (Int32.ofNat 1))) 731) from s_iconst (Int32.ofNat 1) dL_law_730 (by decide +kernel)), ⟨(show xSim l P xMT (xMuL nm) 731 (i_bin32 (fun x y => x + y) 732) from s_iadd dL_law_731), ⟨(show xSim l P xMT (xMuL nm) 732 (i_sld P.2.2.2.2.1 733) from s_sld dL_law_732), ⟨(show xSim l P xMT (xMuL nm) 733 (i_load x_isA 0 734) from s_aload_n dL_law_733 rfl), ⟨(show xSim l P xMT (xMuL nm) 734 (i_load x_isI 3 735) from s_iload_n dL_law_734 rfl), ⟨(show xSim l P xMT (xMuL nm) 735 (i_push (.inl (.int (Int32.ofNat 2))) 736) from s_iconst (Int32.ofNat 2) dL_law_735 (by decide +kernel)), trivial⟩⟩⟩⟩⟩⟩⟩⟩⟩⟩
set_option maxRecDepth 100000 in
theorem o_k_L_law_46 {nm : String} {l : Launch} {P : xP} : xAll l P xMT (xMuL nm) 736 (k_L_law_46 P.2.2.2.2.1) := ⟨(show xSim l P xMT (xMuL nm) 736 (i_bin32 (fun x y => x + y) 737) from s_iadd dL_law_736), ⟨(show xSim l P xMT (xMuL nm) 737 (i_sld P.2.2.2.2.1 738) from s_sld dL_law_737), ⟨(show xSim l P xMT (xMuL nm) 738 (i_load x_isA 0 739) from s_aload_n dL_law_738 rfl), ⟨(show xSim l P xMT (xMuL nm) 739 (i_load x_isI 3 740) from s_iload_n dL_law_739 rfl), ⟨(show xSim l P xMT (xMuL nm) 740 (i_push (.inl (.int (Int32.ofNat 3))) 741) from s_iconst (Int32.ofNat 3) dL_law_740 (by decide +kernel)), ⟨(show xSim l P xMT (xMuL nm) 741 (i_bin32 (fun x y => x + y) 742) from s_iadd dL_law_741), ⟨(show xSim l P xMT (xMuL nm) 742 (i_sld P.2.2.2.2.1 743) from s_sld dL_law_742), ⟨(show xSim l P xMT (xMuL nm) 743 (i_call (some 11) 113 4 0 0 746) from s_callV 11 (q_X11_shows) t_X11_shows m_X11_shows dL_law_743 rfl (xvc_11) w_837 w_838 w_839 w_836 w_249 h_X11_shows ⟨(show q_X11_shows.2.2.2.2.frames + 1 ≤ room_1.frames by decide +kernel), (show 8 + (q_X11_shows.2.2.1 + 11) + q_X11_shows.2.2.2.2.locals ≤ room_1.locals by decide +kernel)⟩), ⟨(show xSim l P xMT (xMuL nm) 746 (i_load x_isA 2 747) from s_aload_n dL_law_746 rfl), ⟨(show xSim l P xMT (xMuL nm) 747 (i_load x_isA 0 748) from s_aload_n dL_law_747 rfl), ⟨(show xSim l P xMT (xMuL nm) 748 (i_load x_isI 3 749) from s_iload_n dL_law_748 rfl), ⟨(show xSim l P xMT (xMuL nm) 749 (i_push (.inl (.int (Int32.ofNat 1))) 750) from s_iconst (Int32.ofNat 1) dL_law_749 (by decide +kernel)), ⟨(show xSim l P xMT (xMuL nm) 750 (i_bin32 (fun x y => x + y) 751) from s_iadd dL_law_750), ⟨(show xSim l P xMT (xMuL nm) 751 (i_sld P.2.2.2.2.1 752) from s_sld dL_law_751), trivial⟩⟩⟩⟩⟩⟩⟩⟩⟩⟩⟩⟩⟩⟩
set_option maxRecDepth 100000 in
theorem o_k_L_law_47 {nm : String} {l : Launch} {P : xP} : xAll l P xMT (xMuL nm) 752 (k_L_law_47 P.2.2.2.2.1) := ⟨(show xSim l P xMT (xMuL nm) 752 (i_load x_isA 0 753) from s_aload_n dL_law_752 rfl), ⟨(show xSim l P xMT (xMuL nm) 753 (i_load x_isI 3 754) from s_iload_n dL_law_753 rfl), ⟨(show xSim l P xMT (xMuL nm) 754 (i_push (.inl (.int (Int32.ofNat 2))) 755) from s_iconst (Int32.ofNat 2) dL_law_754 (by decide +kernel)), ⟨(show xSim l P xMT (xMuL nm) 755 (i_bin32 (fun x y => x + y) 756) from s_iadd dL_law_755), ⟨(show xSim l P xMT (xMuL nm) 756 (i_sld P.2.2.2.2.1 757) from s_sld dL_law_756), ⟨(show xSim l P xMT (xMuL nm) 757 (i_load x_isA 0 758) from s_aload_n dL_law_757 rfl), ⟨(show xSim l P xMT (xMuL nm) 758 (i_load x_isI 3 759) from s_iload_n dL_law_758 rfl), ⟨(show xSim l P xMT (xMuL nm) 759 (i_push (.inl (.int (Int32.ofNat 3))) 760) from s_iconst (Int32.ofNat 3) dL_law_759 (by decide +kernel)), ⟨(show xSim l P xMT (xMuL nm) 760 (i_bin32 (fun x y => x + y) 761) from s_iadd dL_law_760), ⟨(show xSim l P xMT (xMuL nm) 761 (i_sld P.2.2.2.2.1 762) from s_sld dL_law_761), ⟨(show xSim l P xMT (xMuL nm) 762 (i_call (some 12) 196 4 0 0 765) from s_callV 12 (q_X12_shows) t_X12_shows m_X12_shows dL_law_762 rfl (xvc_12) w_841 w_842 w_843 w_840 w_490 h_X12_shows ⟨(show q_X12_shows.2.2.2.2.frames + 1 ≤ room_1.frames by decide +kernel), (show 8 + (q_X12_shows.2.2.1 + 11) + q_X12_shows.2.2.2.2.locals ≤ room_1.locals by decide +kernel)⟩), ⟨(show xSim l P xMT (xMuL nm) 765 (i_icmp 2 1754 768) from s_icmp_eq 1754 dL_law_765 (by decide +kernel)), trivial⟩⟩⟩⟩⟩⟩⟩⟩⟩⟩⟩⟩
set_option maxRecDepth 100000 in
theorem o_k_L_law_48 {nm : String} {l : Launch} {P : xP} : xAll l P xMT (xMuL nm) 768 (k_L_law_48 P.2.2.2.2.1) := ⟨(show xSim l P xMT (xMuL nm) 770 (i_load x_isA 1 771) from s_aload_n dL_law_770 rfl), ⟨(show xSim l P xMT (xMuL nm) 771 (i_load x_isA 0 772) from s_aload_n dL_law_771 rfl), ⟨(show xSim l P xMT (xMuL nm) 772 (i_load x_isI 3 773) from s_iload_n dL_law_772 rfl), ⟨(show xSim l P xMT (xMuL nm) 773 (i_push (.inl (.int (Int32.ofNat 1))) 774) from s_iconst (Int32.ofNat 1) dL_law_773 (by decide +kernel)), ⟨(show xSim l P xMT (xMuL nm) 774 (i_bin32 (fun x y => x + y) 775) from s_iadd dL_law_774), ⟨(show xSim l P xMT (xMuL nm) 775 (i_sld P.2.2.2.2.1 776) from s_sld dL_law_775), ⟨(show xSim l P xMT (xMuL nm) 776 (i_load x_isA 0 777) from s_aload_n dL_law_776 rfl), ⟨(show xSim l P xMT (xMuL nm) 777 (i_load x_isI 3 778) from s_iload_n dL_law_777 rfl), ⟨(show xSim l P xMT (xMuL nm) 778 (i_push (.inl (.int (Int32.ofNat 2))) 779) from s_iconst (Int32.ofNat 2) dL_law_778 (by decide +kernel)), ⟨(show xSim l P xMT (xMuL nm) 779 (i_bin32 (fun x y => x + y) 780) from s_iadd dL_law_779), ⟨(show xSim l P xMT (xMuL nm) 780 (i_sld P.2.2.2.2.1 781) from s_sld dL_law_780), ⟨(show xSim l P xMT (xMuL nm) 781 (i_call (some 11) 83 3 0 0 784) from s_callV 11 (q_X11_company) t_X11_company m_X11_company dL_law_781 rfl (xvc_11) w_845 w_846 w_847 w_844 w_249 h_X11_company ⟨(show q_X11_company.2.2.2.2.frames + 1 ≤ room_1.frames by decide +kernel), (show 8 + (q_X11_company.2.2.1 + 11) + q_X11_company.2.2.2.2.locals ≤ room_1.locals by decide +kernel)⟩), trivial⟩⟩⟩⟩⟩⟩⟩⟩⟩⟩⟩⟩
set_option maxRecDepth 100000 in
theorem o_k_L_law_49 {nm : String} {l : Launch} {P : xP} : xAll l P xMT (xMuL nm) 784 (k_L_law_49 P.2.2.2.2.1) := ⟨(show xSim l P xMT (xMuL nm) 784 (i_load x_isA 2 785) from s_aload_n dL_law_784 rfl), ⟨(show xSim l P xMT (xMuL nm) 785 (i_load x_isA 0 786) from s_aload_n dL_law_785 rfl), ⟨(show xSim l P xMT (xMuL nm) 786 (i_load x_isI 3 787) from s_iload_n dL_law_786 rfl), ⟨(show xSim l P xMT (xMuL nm) 787 (i_push (.inl (.int (Int32.ofNat 1))) 788) from s_iconst (Int32.ofNat 1) dL_law_787 (by decide +kernel)), ⟨(show xSim l P xMT (xMuL nm) 788 (i_bin32 (fun x y => x + y) 789) from s_iadd dL_law_788), ⟨(show xSim l P xMT (xMuL nm) 789 (i_sld P.2.2.2.2.1 790) from s_sld dL_law_789), ⟨(show xSim l P xMT (xMuL nm) 790 (i_load x_isA 0 791) from s_aload_n dL_law_790 rfl), ⟨(show xSim l P xMT (xMuL nm) 791 (i_load x_isI 3 792) from s_iload_n dL_law_791 rfl), ⟨(show xSim l P xMT (xMuL nm) 792 (i_push (.inl (.int (Int32.ofNat 2))) 793) from s_iconst (Int32.ofNat 2) dL_law_792 (by decide +kernel)), ⟨(show xSim l P xMT (xMuL nm) 793 (i_bin32 (fun x y => x + y) 794) from s_iadd dL_law_793), ⟨(show xSim l P xMT (xMuL nm) 794 (i_sld P.2.2.2.2.1 795) from s_sld dL_law_794), ⟨(show xSim l P xMT (xMuL nm) 795 (i_call (some 12) 140 3 0 0 798) from s_callV 12 (q_X12_company) t_X12_company m_X12_company dL_law_795 rfl (xvc_12) w_849 w_850 w_851 w_848 w_490 h_X12_company ⟨(show q_X12_company.2.2.2.2.frames + 1 ≤ room_1.frames by decide +kernel), (show 8 + (q_X12_company.2.2.1 + 11) + q_X12_company.2.2.2.2.locals ≤ room_1.locals by decide +kernel)⟩), ⟨(show xSim l P xMT (xMuL nm) 798 (i_icmp 2 1754 801) from s_icmp_eq 1754 dL_law_798 (by decide +kernel)), trivial⟩⟩⟩⟩⟩⟩⟩⟩⟩⟩⟩⟩⟩
set_option maxRecDepth 100000 in
theorem o_k_L_law_50 {nm : String} {l : Launch} {P : xP} : xAll l P xMT (xMuL nm) 800 (k_L_law_50 P.2.2.2.2.1) := ⟨(show xSim l P xMT (xMuL nm) 803 (i_load x_isA 1 804) from s_aload_n dL_law_803 rfl), ⟨(show xSim l P xMT (xMuL nm) 804 (i_load x_isA 0 805) from s_aload_n dL_law_804 rfl), ⟨(show xSim l P xMT (xMuL nm) 805 (i_load x_isI 3 806) from s_iload_n dL_law_805 rfl), ⟨(show xSim l P xMT (xMuL nm) 806 (i_push (.inl (.int (Int32.ofNat 1))) 807) from s_iconst (Int32.ofNat 1) dL_law_806 (by decide +kernel)), ⟨(show xSim l P xMT (xMuL nm) 807 (i_bin32 (fun x y => x + y) 808) from s_iadd dL_law_807), ⟨(show xSim l P xMT (xMuL nm) 808 (i_sld P.2.2.2.2.1 809) from s_sld dL_law_808), ⟨(show xSim l P xMT (xMuL nm) 809 (i_load x_isA 0 810) from s_aload_n dL_law_809 rfl), ⟨(show xSim l P xMT (xMuL nm) 810 (i_load x_isI 3 811) from s_iload_n dL_law_810 rfl), ⟨(show xSim l P xMT (xMuL nm) 811 (i_push (.inl (.int (Int32.ofNat 2))) 812) from s_iconst (Int32.ofNat 2) dL_law_811 (by decide +kernel)), ⟨(show xSim l P xMT (xMuL nm) 812 (i_bin32 (fun x y => x + y) 813) from s_iadd dL_law_812), ⟨(show xSim l P xMT (xMuL nm) 813 (i_sld P.2.2.2.2.1 814) from s_sld dL_law_813), ⟨(show xSim l P xMT (xMuL nm) 814 (i_load x_isA 0 815) from s_aload_n dL_law_814 rfl), ⟨(show xSim l P xMT (xMuL nm) 815 (i_load x_isI 3 816) from s_iload_n dL_law_815 rfl), trivial⟩⟩⟩⟩⟩⟩⟩⟩⟩⟩⟩⟩⟩
set_option maxRecDepth 100000 in
theorem o_k_L_law_51 {nm : String} {l : Launch} {P : xP} : xAll l P xMT (xMuL nm) 816 (k_L_law_51 P.2.2.2.2.1) := ⟨(show xSim l P xMT (xMuL nm) 816 (i_push (.inl (.int (Int32.ofNat 3))) 817) from s_iconst (Int32.ofNat 3) dL_law_816 (by decide +kernel)), ⟨(show xSim l P xMT (xMuL nm) 817 (i_bin32 (fun x y => x + y) 818) from s_iadd dL_law_817), ⟨(show xSim l P xMT (xMuL nm) 818 (i_sld P.2.2.2.2.1 819) from s_sld dL_law_818), ⟨(show xSim l P xMT (xMuL nm) 819 (i_call (some 11) 78 4 0 0 822) from s_callV 11 (q_X11_bite) t_X11_bite m_X11_bite dL_law_819 rfl (xvc_11) w_853 w_854 w_855 w_852 w_249 h_X11_bite ⟨(show q_X11_bite.2.2.2.2.frames + 1 ≤ room_1.frames by decide +kernel), (show 8 + (q_X11_bite.2.2.1 + 11) + q_X11_bite.2.2.2.2.locals ≤ room_1.locals by decide +kernel)⟩), ⟨(show xSim l P xMT (xMuL nm) 822 (i_load x_isA 2 823) from s_aload_n dL_law_822 rfl), ⟨(show xSim l P xMT (xMuL nm) 823 (i_load x_isA 0 824) from s_aload_n dL_law_823 rfl), ⟨(show xSim l P xMT (xMuL nm) 824 (i_load x_isI 3 825) from s_iload_n dL_law_824 rfl), ⟨(show xSim l P xMT (xMuL nm) 825 (i_push (.inl (.int (Int32.ofNat 1))) 826) from s_iconst (Int32.ofNat 1) dL_law_825 (by decide +kernel)), ⟨(show xSim l P xMT (xMuL nm) 826 (i_bin32 (fun x y => x + y) 827) from s_iadd dL_law_826), ⟨(show xSim l P xMT (xMuL nm) 827 (i_sld P.2.2.2.2.1 828) from s_sld dL_law_827), ⟨(show xSim l P xMT (xMuL nm) 828 (i_load x_isA 0 829) from s_aload_n dL_law_828 rfl), ⟨(show xSim l P xMT (xMuL nm) 829 (i_load x_isI 3 830) from s_iload_n dL_law_829 rfl), ⟨(show xSim l P xMT (xMuL nm) 830 (i_push (.inl (.int (Int32.ofNat 2))) 831) from s_iconst (Int32.ofNat 2) dL_law_830 (by decide +kernel)), ⟨(show xSim l P xMT (xMuL nm) 831 (i_bin32 (fun x y => x + y) 832) from s_iadd dL_law_831), trivial⟩⟩⟩⟩⟩⟩⟩⟩⟩⟩⟩⟩⟩⟩
set_option maxRecDepth 100000 in
theorem o_k_L_law_52 {nm : String} {l : Launch} {P : xP} : xAll l P xMT (xMuL nm) 832 (k_L_law_52 P.2.2.2.2.1) := ⟨(show xSim l P xMT (xMuL nm) 832 (i_sld P.2.2.2.2.1 833) from s_sld dL_law_832), ⟨(show xSim l P xMT (xMuL nm) 833 (i_load x_isA 0 834) from s_aload_n dL_law_833 rfl), ⟨(show xSim l P xMT (xMuL nm) 834 (i_load x_isI 3 835) from s_iload_n dL_law_834 rfl), ⟨(show xSim l P xMT (xMuL nm) 835 (i_push (.inl (.int (Int32.ofNat 3))) 836) from s_iconst (Int32.ofNat 3) dL_law_835 (by decide +kernel)), ⟨(show xSim l P xMT (xMuL nm) 836 (i_bin32 (fun x y => x + y) 837) from s_iadd dL_law_836), ⟨(show xSim l P xMT (xMuL nm) 837 (i_sld P.2.2.2.2.1 838) from s_sld dL_law_837), ⟨(show xSim l P xMT (xMuL nm) 838 (i_call (some 12) 134 4 0 0 841) from s_callV 12 (q_X12_bite) t_X12_bite m_X12_bite dL_law_838 rfl (xvc_12) w_857 w_858 w_859 w_856 w_490 h_X12_bite ⟨(show q_X12_bite.2.2.2.2.frames + 1 ≤ room_1.frames by decide +kernel), (show 8 + (q_X12_bite.2.2.1 + 11) + q_X12_bite.2.2.2.2.locals ≤ room_1.locals by decide +kernel)⟩), ⟨(show xSim l P xMT (xMuL nm) 841 (i_icmp 2 1754 844) from s_icmp_eq 1754 dL_law_841 (by decide +kernel)), ⟨(show xSim l P xMT (xMuL nm) 846 (i_load x_isA 1 847) from s_aload_n dL_law_846 rfl), ⟨(show xSim l P xMT (xMuL nm) 847 (i_load x_isA 0 848) from s_aload_n dL_law_847 rfl), trivial⟩⟩⟩⟩⟩⟩⟩⟩⟩⟩
set_option maxRecDepth 100000 in
theorem o_k_L_law_53 {nm : String} {l : Launch} {P : xP} : xAll l P xMT (xMuL nm) 848 (k_L_law_53 P.2.2.2.2.1) := ⟨(show xSim l P xMT (xMuL nm) 848 (i_load x_isI 3 849) from s_iload_n dL_law_848 rfl), ⟨(show xSim l P xMT (xMuL nm) 849 (i_push (.inl (.int (Int32.ofNat 1))) 850) from s_iconst (Int32.ofNat 1) dL_law_849 (by decide +kernel)), ⟨(show xSim l P xMT (xMuL nm) 850 (i_bin32 (fun x y => x + y) 851) from s_iadd dL_law_850), ⟨(show xSim l P xMT (xMuL nm) 851 (i_sld P.2.2.2.2.1 852) from s_sld dL_law_851), ⟨(show xSim l P xMT (xMuL nm) 852 (i_load x_isA 0 853) from s_aload_n dL_law_852 rfl), ⟨(show xSim l P xMT (xMuL nm) 853 (i_load x_isI 3 854) from s_iload_n dL_law_853 rfl), ⟨(show xSim l P xMT (xMuL nm) 854 (i_push (.inl (.int (Int32.ofNat 2))) 855) from s_iconst (Int32.ofNat 2) dL_law_854 (by decide +kernel)), ⟨(show xSim l P xMT (xMuL nm) 855 (i_bin32 (fun x y => x + y) 856) from s_iadd dL_law_855), ⟨(show xSim l P xMT (xMuL nm) 856 (i_sld P.2.2.2.2.1 857) from s_sld dL_law_856), ⟨(show xSim l P xMT (xMuL nm) 857 (i_load x_isA 0 858) from s_aload_n dL_law_857 rfl), ⟨(show xSim l P xMT (xMuL nm) 858 (i_load x_isI 3 859) from s_iload_n dL_law_858 rfl), ⟨(show xSim l P xMT (xMuL nm) 859 (i_push (.inl (.int (Int32.ofNat 3))) 860) from s_iconst (Int32.ofNat 3) dL_law_859 (by decide +kernel)), ⟨(show xSim l P xMT (xMuL nm) 860 (i_bin32 (fun x y => x + y) 861) from s_iadd dL_law_860), ⟨(show xSim l P xMT (xMuL nm) 861 (i_sld P.2.2.2.2.1 862) from s_sld dL_law_861), ⟨(show xSim l P xMT (xMuL nm) 862 (i_call (some 11) 101 4 0 0 865) from s_callV 11 (q_X11_mould) t_X11_mould m_X11_mould dL_law_862 rfl (xvc_11) w_861 w_862 w_863 w_860 w_249 h_X11_mould ⟨(show q_X11_mould.2.2.2.2.frames + 1 ≤ room_1.frames by decide +kernel), (show 8 + (q_X11_mould.2.2.1 + 11) + q_X11_mould.2.2.2.2.locals ≤ room_1.locals by decide +kernel)⟩), trivial⟩⟩⟩⟩⟩⟩⟩⟩⟩⟩⟩⟩⟩⟩⟩
set_option maxRecDepth 100000 in
theorem o_k_L_law_54 {nm : String} {l : Launch} {P : xP} : xAll l P xMT (xMuL nm) 864 (k_L_law_54 P.2.2.2.2.1) := ⟨(show xSim l P xMT (xMuL nm) 865 (i_load x_isA 2 866) from s_aload_n dL_law_865 rfl), ⟨(show xSim l P xMT (xMuL nm) 866 (i_load x_isA 0 867) from s_aload_n dL_law_866 rfl), ⟨(show xSim l P xMT (xMuL nm) 867 (i_load x_isI 3 868) from s_iload_n dL_law_867 rfl), ⟨(show xSim l P xMT (xMuL nm) 868 (i_push (.inl (.int (Int32.ofNat 1))) 869) from s_iconst (Int32.ofNat 1) dL_law_868 (by decide +kernel)), ⟨(show xSim l P xMT (xMuL nm) 869 (i_bin32 (fun x y => x + y) 870) from s_iadd dL_law_869), ⟨(show xSim l P xMT (xMuL nm) 870 (i_sld P.2.2.2.2.1 871) from s_sld dL_law_870), ⟨(show xSim l P xMT (xMuL nm) 871 (i_load x_isA 0 872) from s_aload_n dL_law_871 rfl), ⟨(show xSim l P xMT (xMuL nm) 872 (i_load x_isI 3 873) from s_iload_n dL_law_872 rfl), ⟨(show xSim l P xMT (xMuL nm) 873 (i_push (.inl (.int (Int32.ofNat 2))) 874) from s_iconst (Int32.ofNat 2) dL_law_873 (by decide +kernel)), ⟨(show xSim l P xMT (xMuL nm) 874 (i_bin32 (fun x y => x + y) 875) from s_iadd dL_law_874), ⟨(show xSim l P xMT (xMuL nm) 875 (i_sld P.2.2.2.2.1 876) from s_sld dL_law_875), ⟨(show xSim l P xMT (xMuL nm) 876 (i_load x_isA 0 877) from s_aload_n dL_law_876 rfl), ⟨(show xSim l P xMT (xMuL nm) 877 (i_load x_isI 3 878) from s_iload_n dL_law_877 rfl), ⟨(show xSim l P xMT (xMuL nm) 878 (i_push (.inl (.int (Int32.ofNat 3))) 879) from s_iconst (Int32.ofNat 3) dL_law_878 (by decide +kernel)), ⟨(show xSim l P xMT (xMuL nm) 879 (i_bin32 (fun x y => x + y) 880) from s_iadd dL_law_879), trivial⟩⟩⟩⟩⟩⟩⟩⟩⟩⟩⟩⟩⟩⟩⟩
set_option maxRecDepth 100000 in
theorem o_k_L_law_55 {nm : String} {l : Launch} {P : xP} : xAll l P xMT (xMuL nm) 880 (k_L_law_55 P.2.2.2.2.1) := ⟨(show xSim l P xMT (xMuL nm) 880 (i_sld P.2.2.2.2.1 881) from s_sld dL_law_880), ⟨(show xSim l P xMT (xMuL nm) 881 (i_call (some 12) 179 4 0 0 884) from s_callV 12 (q_X12_mould) t_X12_mould m_X12_mould dL_law_881 rfl (xvc_12) w_865 w_866 w_867 w_864 w_490 h_X12_mould ⟨(show q_X12_mould.2.2.2.2.frames + 1 ≤ room_1.frames by decide +kernel), (show 8 + (q_X12_mould.2.2.1 + 11) + q_X12_mould.2.2.2.2.locals ≤ room_1.locals by decide +kernel)⟩), ⟨(show xSim l P xMT (xMuL nm) 884 (i_icmp 2 1754 887) from s_icmp_eq 1754 dL_law_884 (by decide +kernel)), ⟨(show xSim l P xMT (xMuL nm) 889 (i_load x_isA 1 890) from s_aload_n dL_law_889 rfl), ⟨(show xSim l P xMT (xMuL nm) 890 (i_load x_isA 0 891) from s_aload_n dL_law_890 rfl), ⟨(show xSim l P xMT (xMuL nm) 891 (i_load x_isI 3 892) from s_iload_n dL_law_891 rfl), ⟨(show xSim l P xMT (xMuL nm) 892 (i_push (.inl (.int (Int32.ofNat 1))) 893) from s_iconst (Int32.ofNat 1) dL_law_892 (by decide +kernel)), ⟨(show xSim l P xMT (xMuL nm) 893 (i_bin32 (fun x y => x + y) 894) from s_iadd dL_law_893), ⟨(show xSim l P xMT (xMuL nm) 894 (i_sld P.2.2.2.2.1 895) from s_sld dL_law_894), ⟨(show xSim l P xMT (xMuL nm) 895 (i_load x_isA 0 896) from s_aload_n dL_law_895 rfl), trivial⟩⟩⟩⟩⟩⟩⟩⟩⟩⟩
set_option maxRecDepth 100000 in
theorem o_k_L_law_56 {nm : String} {l : Launch} {P : xP} : xAll l P xMT (xMuL nm) 896 (k_L_law_56 P.2.2.2.2.1) := ⟨(show xSim l P xMT (xMuL nm) 896 (i_load x_isI 3 897) from s_iload_n dL_law_896 rfl), ⟨(show xSim l P xMT (xMuL nm) 897 (i_push (.inl (.int (Int32.ofNat 2))) 898) from s_iconst (Int32.ofNat 2) dL_law_897 (by decide +kernel)), ⟨(show xSim l P xMT (xMuL nm) 898 (i_bin32 (fun x y => x + y) 899) from s_iadd dL_law_898), ⟨(show xSim l P xMT (xMuL nm) 899 (i_sld P.2.2.2.2.1 900) from s_sld dL_law_899), ⟨(show xSim l P xMT (xMuL nm) 900 (i_load x_isA 0 901) from s_aload_n dL_law_900 rfl), ⟨(show xSim l P xMT (xMuL nm) 901 (i_load x_isI 3 902) from s_iload_n dL_law_901 rfl), ⟨(show xSim l P xMT (xMuL nm) 902 (i_push (.inl (.int (Int32.ofNat 3))) 903) from s_iconst (Int32.ofNat 3) dL_law_902 (by decide +kernel)), ⟨(show xSim l P xMT (xMuL nm) 903 (i_bin32 (fun x y => x + y) 904) from s_iadd dL_law_903), ⟨(show xSim l P xMT (xMuL nm) 904 (i_sld P.2.2.2.2.1 905) from s_sld dL_law_904), ⟨(show xSim l P xMT (xMuL nm) 905 (i_call (some 11) 92 4 0 0 908) from s_callV 11 (q_X11_honey) t_X11_honey m_X11_honey dL_law_905 rfl (xvc_11) w_869 w_870 w_871 w_868 w_249 h_X11_honey ⟨(show q_X11_honey.2.2.2.2.frames + 1 ≤ room_1.frames by decide +kernel), (show 8 + (q_X11_honey.2.2.1 + 11) + q_X11_honey.2.2.2.2.locals ≤ room_1.locals by decide +kernel)⟩), ⟨(show xSim l P xMT (xMuL nm) 908 (i_load x_isA 2 909) from s_aload_n dL_law_908 rfl), ⟨(show xSim l P xMT (xMuL nm) 909 (i_load x_isA 0 910) from s_aload_n dL_law_909 rfl), ⟨(show xSim l P xMT (xMuL nm) 910 (i_load x_isI 3 911) from s_iload_n dL_law_910 rfl), ⟨(show xSim l P xMT (xMuL nm) 911 (i_push (.inl (.int (Int32.ofNat 1))) 912) from s_iconst (Int32.ofNat 1) dL_law_911 (by decide +kernel)), trivial⟩⟩⟩⟩⟩⟩⟩⟩⟩⟩⟩⟩⟩⟩
set_option maxRecDepth 100000 in
theorem o_k_L_law_57 {nm : String} {l : Launch} {P : xP} : xAll l P xMT (xMuL nm) 912 (k_L_law_57 P.2.2.2.2.1) := ⟨(show xSim l P xMT (xMuL nm) 912 (i_bin32 (fun x y => x + y) 913) from s_iadd dL_law_912), ⟨(show xSim l P xMT (xMuL nm) 913 (i_sld P.2.2.2.2.1 914) from s_sld dL_law_913), ⟨(show xSim l P xMT (xMuL nm) 914 (i_load x_isA 0 915) from s_aload_n dL_law_914 rfl), ⟨(show xSim l P xMT (xMuL nm) 915 (i_load x_isI 3 916) from s_iload_n dL_law_915 rfl), ⟨(show xSim l P xMT (xMuL nm) 916 (i_push (.inl (.int (Int32.ofNat 2))) 917) from s_iconst (Int32.ofNat 2) dL_law_916 (by decide +kernel)), ⟨(show xSim l P xMT (xMuL nm) 917 (i_bin32 (fun x y => x + y) 918) from s_iadd dL_law_917), ⟨(show xSim l P xMT (xMuL nm) 918 (i_sld P.2.2.2.2.1 919) from s_sld dL_law_918), ⟨(show xSim l P xMT (xMuL nm) 919 (i_load x_isA 0 920) from s_aload_n dL_law_919 rfl), ⟨(show xSim l P xMT (xMuL nm) 920 (i_load x_isI 3 921) from s_iload_n dL_law_920 rfl), ⟨(show xSim l P xMT (xMuL nm) 921 (i_push (.inl (.int (Int32.ofNat 3))) 922) from s_iconst (Int32.ofNat 3) dL_law_921 (by decide +kernel)), ⟨(show xSim l P xMT (xMuL nm) 922 (i_bin32 (fun x y => x + y) 923) from s_iadd dL_law_922), ⟨(show xSim l P xMT (xMuL nm) 923 (i_sld P.2.2.2.2.1 924) from s_sld dL_law_923), ⟨(show xSim l P xMT (xMuL nm) 924 (i_call (some 12) 156 4 0 0 927) from s_callV 12 (q_X12_honey) t_X12_honey m_X12_honey dL_law_924 rfl (xvc_12) w_873 w_874 w_875 w_872 w_490 h_X12_honey ⟨(show q_X12_honey.2.2.2.2.frames + 1 ≤ room_1.frames by decide +kernel), (show 8 + (q_X12_honey.2.2.1 + 11) + q_X12_honey.2.2.2.2.locals ≤ room_1.locals by decide +kernel)⟩), ⟨(show xSim l P xMT (xMuL nm) 927 (i_icmp 2 1754 930) from s_icmp_eq 1754 dL_law_927 (by decide +kernel)), trivial⟩⟩⟩⟩⟩⟩⟩⟩⟩⟩⟩⟩⟩⟩
set_option maxRecDepth 100000 in
theorem o_k_L_law_58 {nm : String} {l : Launch} {P : xP} : xAll l P xMT (xMuL nm) 928 (k_L_law_58 P.2.2.2.2.1) := ⟨(show xSim l P xMT (xMuL nm) 932 (i_load x_isA 1 933) from s_aload_n dL_law_932 rfl), ⟨(show xSim l P xMT (xMuL nm) 933 (i_load x_isA 0 934) from s_aload_n dL_law_933 rfl), ⟨(show xSim l P xMT (xMuL nm) 934 (i_load x_isI 3 935) from s_iload_n dL_law_934 rfl), ⟨(show xSim l P xMT (xMuL nm) 935 (i_push (.inl (.int (Int32.ofNat 1))) 936) from s_iconst (Int32.ofNat 1) dL_law_935 (by decide +kernel)), ⟨(show xSim l P xMT (xMuL nm) 936 (i_bin32 (fun x y => x + y) 937) from s_iadd dL_law_936), ⟨(show xSim l P xMT (xMuL nm) 937 (i_sld P.2.2.2.2.1 938) from s_sld dL_law_937), ⟨(show xSim l P xMT (xMuL nm) 938 (i_load x_isA 0 939) from s_aload_n dL_law_938 rfl), ⟨(show xSim l P xMT (xMuL nm) 939 (i_load x_isI 3 940) from s_iload_n dL_law_939 rfl), ⟨(show xSim l P xMT (xMuL nm) 940 (i_push (.inl (.int (Int32.ofNat 2))) 941) from s_iconst (Int32.ofNat 2) dL_law_940 (by decide +kernel)), ⟨(show xSim l P xMT (xMuL nm) 941 (i_bin32 (fun x y => x + y) 942) from s_iadd dL_law_941), ⟨(show xSim l P xMT (xMuL nm) 942 (i_sld P.2.2.2.2.1 943) from s_sld dL_law_942), ⟨(show xSim l P xMT (xMuL nm) 943 (i_load x_isA 0 944) from s_aload_n dL_law_943 rfl), trivial⟩⟩⟩⟩⟩⟩⟩⟩⟩⟩⟩⟩
set_option maxRecDepth 100000 in
theorem o_k_L_law_59 {nm : String} {l : Launch} {P : xP} : xAll l P xMT (xMuL nm) 944 (k_L_law_59 P.2.2.2.2.1) := ⟨(show xSim l P xMT (xMuL nm) 944 (i_load x_isI 3 945) from s_iload_n dL_law_944 rfl), ⟨(show xSim l P xMT (xMuL nm) 945 (i_push (.inl (.int (Int32.ofNat 3))) 946) from s_iconst (Int32.ofNat 3) dL_law_945 (by decide +kernel)), ⟨(show xSim l P xMT (xMuL nm) 946 (i_bin32 (fun x y => x + y) 947) from s_iadd dL_law_946), ⟨(show xSim l P xMT (xMuL nm) 947 (i_sld P.2.2.2.2.1 948) from s_sld dL_law_947), ⟨(show xSim l P xMT (xMuL nm) 948 (i_call (some 11) 81 4 0 0 951) from s_callV 11 (q_X11_clean) t_X11_clean m_X11_clean dL_law_948 rfl (xvc_11) w_877 w_878 w_879 w_876 w_249 h_X11_clean ⟨(show q_X11_clean.2.2.2.2.frames + 1 ≤ room_1.frames by decide +kernel), (show 8 + (q_X11_clean.2.2.1 + 11) + q_X11_clean.2.2.2.2.locals ≤ room_1.locals by decide +kernel)⟩), ⟨(show xSim l P xMT (xMuL nm) 951 (i_load x_isA 2 952) from s_aload_n dL_law_951 rfl), ⟨(show xSim l P xMT (xMuL nm) 952 (i_load x_isA 0 953) from s_aload_n dL_law_952 rfl), ⟨(show xSim l P xMT (xMuL nm) 953 (i_load x_isI 3 954) from s_iload_n dL_law_953 rfl), ⟨(show xSim l P xMT (xMuL nm) 954 (i_push (.inl (.int (Int32.ofNat 1))) 955) from s_iconst (Int32.ofNat 1) dL_law_954 (by decide +kernel)), ⟨(show xSim l P xMT (xMuL nm) 955 (i_bin32 (fun x y => x + y) 956) from s_iadd dL_law_955), ⟨(show xSim l P xMT (xMuL nm) 956 (i_sld P.2.2.2.2.1 957) from s_sld dL_law_956), ⟨(show xSim l P xMT (xMuL nm) 957 (i_load x_isA 0 958) from s_aload_n dL_law_957 rfl), ⟨(show xSim l P xMT (xMuL nm) 958 (i_load x_isI 3 959) from s_iload_n dL_law_958 rfl), ⟨(show xSim l P xMT (xMuL nm) 959 (i_push (.inl (.int (Int32.ofNat 2))) 960) from s_iconst (Int32.ofNat 2) dL_law_959 (by decide +kernel)), trivial⟩⟩⟩⟩⟩⟩⟩⟩⟩⟩⟩⟩⟩⟩
set_option maxRecDepth 100000 in
theorem o_k_L_law_60 {nm : String} {l : Launch} {P : xP} : xAll l P xMT (xMuL nm) 960 (k_L_law_60 P.2.2.2.2.1) := ⟨(show xSim l P xMT (xMuL nm) 960 (i_bin32 (fun x y => x + y) 961) from s_iadd dL_law_960), ⟨(show xSim l P xMT (xMuL nm) 961 (i_sld P.2.2.2.2.1 962) from s_sld dL_law_961), ⟨(show xSim l P xMT (xMuL nm) 962 (i_load x_isA 0 963) from s_aload_n dL_law_962 rfl), ⟨(show xSim l P xMT (xMuL nm) 963 (i_load x_isI 3 964) from s_iload_n dL_law_963 rfl), ⟨(show xSim l P xMT (xMuL nm) 964 (i_push (.inl (.int (Int32.ofNat 3))) 965) from s_iconst (Int32.ofNat 3) dL_law_964 (by decide +kernel)), ⟨(show xSim l P xMT (xMuL nm) 965 (i_bin32 (fun x y => x + y) 966) from s_iadd dL_law_965), ⟨(show xSim l P xMT (xMuL nm) 966 (i_sld P.2.2.2.2.1 967) from s_sld dL_law_966), ⟨(show xSim l P xMT (xMuL nm) 967 (i_call (some 12) 139 4 0 0 970) from s_callV 12 (q_X12_clean) t_X12_clean m_X12_clean dL_law_967 rfl (xvc_12) w_881 w_882 w_883 w_880 w_490 h_X12_clean ⟨(show q_X12_clean.2.2.2.2.frames + 1 ≤ room_1.frames by decide +kernel), (show 8 + (q_X12_clean.2.2.1 + 11) + q_X12_clean.2.2.2.2.locals ≤ room_1.locals by decide +kernel)⟩), ⟨(show xSim l P xMT (xMuL nm) 970 (i_icmp 2 1754 973) from s_icmp_eq 1754 dL_law_970 (by decide +kernel)), ⟨(show xSim l P xMT (xMuL nm) 975 (i_load x_isA 1 976) from s_aload_n dL_law_975 rfl), trivial⟩⟩⟩⟩⟩⟩⟩⟩⟩⟩
set_option maxRecDepth 100000 in
theorem o_k_L_law_61 {nm : String} {l : Launch} {P : xP} : xAll l P xMT (xMuL nm) 976 (k_L_law_61 P.2.2.2.2.1) := ⟨(show xSim l P xMT (xMuL nm) 976 (i_load x_isA 0 977) from s_aload_n dL_law_976 rfl), ⟨(show xSim l P xMT (xMuL nm) 977 (i_load x_isI 3 978) from s_iload_n dL_law_977 rfl), ⟨(show xSim l P xMT (xMuL nm) 978 (i_push (.inl (.int (Int32.ofNat 1))) 979) from s_iconst (Int32.ofNat 1) dL_law_978 (by decide +kernel)), ⟨(show xSim l P xMT (xMuL nm) 979 (i_bin32 (fun x y => x + y) 980) from s_iadd dL_law_979), ⟨(show xSim l P xMT (xMuL nm) 980 (i_sld P.2.2.2.2.1 981) from s_sld dL_law_980), ⟨(show xSim l P xMT (xMuL nm) 981 (i_load x_isA 0 982) from s_aload_n dL_law_981 rfl), ⟨(show xSim l P xMT (xMuL nm) 982 (i_load x_isI 3 983) from s_iload_n dL_law_982 rfl), ⟨(show xSim l P xMT (xMuL nm) 983 (i_push (.inl (.int (Int32.ofNat 2))) 984) from s_iconst (Int32.ofNat 2) dL_law_983 (by decide +kernel)), ⟨(show xSim l P xMT (xMuL nm) 984 (i_bin32 (fun x y => x + y) 985) from s_iadd dL_law_984), ⟨(show xSim l P xMT (xMuL nm) 985 (i_sld P.2.2.2.2.1 986) from s_sld dL_law_985), ⟨(show xSim l P xMT (xMuL nm) 986 (i_call (some 11) 115 3 0 0 989) from s_callV 11 (q_X11_steam) t_X11_steam m_X11_steam dL_law_986 rfl (xvc_11) w_885 w_886 w_887 w_884 w_249 h_X11_steam ⟨(show q_X11_steam.2.2.2.2.frames + 1 ≤ room_1.frames by decide +kernel), (show 8 + (q_X11_steam.2.2.1 + 11) + q_X11_steam.2.2.2.2.locals ≤ room_1.locals by decide +kernel)⟩), ⟨(show xSim l P xMT (xMuL nm) 989 (i_load x_isA 2 990) from s_aload_n dL_law_989 rfl), ⟨(show xSim l P xMT (xMuL nm) 990 (i_load x_isA 0 991) from s_aload_n dL_law_990 rfl), ⟨(show xSim l P xMT (xMuL nm) 991 (i_load x_isI 3 992) from s_iload_n dL_law_991 rfl), trivial⟩⟩⟩⟩⟩⟩⟩⟩⟩⟩⟩⟩⟩⟩
set_option maxRecDepth 100000 in
theorem o_k_L_law_62 {nm : String} {l : Launch} {P : xP} : xAll l P xMT (xMuL nm) 992 (k_L_law_62 P.2.2.2.2.1) := ⟨(show xSim l P xMT (xMuL nm) 992 (i_push (.inl (.int (Int32.ofNat 1))) 993) from s_iconst (Int32.ofNat 1) dL_law_992 (by decide +kernel)), ⟨(show xSim l P xMT (xMuL nm) 993 (i_bin32 (fun x y => x + y) 994) from s_iadd dL_law_993), ⟨(show xSim l P xMT (xMuL nm) 994 (i_sld P.2.2.2.2.1 995) from s_sld dL_law_994), ⟨(show xSim l P xMT (xMuL nm) 995 (i_load x_isA 0 996) from s_aload_n dL_law_995 rfl), ⟨(show xSim l P xMT (xMuL nm) 996 (i_load x_isI 3 997) from s_iload_n dL_law_996 rfl), ⟨(show xSim l P xMT (xMuL nm) 997 (i_push (.inl (.int (Int32.ofNat 2))) 998) from s_iconst (Int32.ofNat 2) dL_law_997 (by decide +kernel)), ⟨(show xSim l P xMT (xMuL nm) 998 (i_bin32 (fun x y => x + y) 999) from s_iadd dL_law_998), ⟨(show xSim l P xMT (xMuL nm) 999 (i_sld P.2.2.2.2.1 1000) from s_sld dL_law_999), ⟨(show xSim l P xMT (xMuL nm) 1000 (i_call (some 12) 202 3 0 0 1003) from s_callV 12 (q_X12_steam) t_X12_steam m_X12_steam dL_law_1000 rfl (xvc_12) w_889 w_890 w_891 w_888 w_490 h_X12_steam ⟨(show q_X12_steam.2.2.2.2.frames + 1 ≤ room_1.frames by decide +kernel), (show 8 + (q_X12_steam.2.2.1 + 11) + q_X12_steam.2.2.2.2.locals ≤ room_1.locals by decide +kernel)⟩), ⟨(show xSim l P xMT (xMuL nm) 1003 (i_icmp 2 1754 1006) from s_icmp_eq 1754 dL_law_1003 (by decide +kernel)), trivial⟩⟩⟩⟩⟩⟩⟩⟩⟩⟩
set_option maxRecDepth 100000 in
theorem o_k_L_law_63 {nm : String} {l : Launch} {P : xP} : xAll l P xMT (xMuL nm) 1008 (k_L_law_63 P.2.2.2.2.1) := ⟨(show xSim l P xMT (xMuL nm) 1008 (i_load x_isA 1 1009) from s_aload_n dL_law_1008 rfl), ⟨(show xSim l P xMT (xMuL nm) 1009 (i_load x_isA 0 1010) from s_aload_n dL_law_1009 rfl), ⟨(show xSim l P xMT (xMuL nm) 1010 (i_load x_isI 3 1011) from s_iload_n dL_law_1010 rfl), ⟨(show xSim l P xMT (xMuL nm) 1011 (i_push (.inl (.int (Int32.ofNat 1))) 1012) from s_iconst (Int32.ofNat 1) dL_law_1011 (by decide +kernel)), ⟨(show xSim l P xMT (xMuL nm) 1012 (i_bin32 (fun x y => x + y) 1013) from s_iadd dL_law_1012), ⟨(show xSim l P xMT (xMuL nm) 1013 (i_sld P.2.2.2.2.1 1014) from s_sld dL_law_1013), ⟨(show xSim l P xMT (xMuL nm) 1014 (i_load x_isA 0 1015) from s_aload_n dL_law_1014 rfl), ⟨(show xSim l P xMT (xMuL nm) 1015 (i_load x_isI 3 1016) from s_iload_n dL_law_1015 rfl), ⟨(show xSim l P xMT (xMuL nm) 1016 (i_push (.inl (.int (Int32.ofNat 2))) 1017) from s_iconst (Int32.ofNat 2) dL_law_1016 (by decide +kernel)), ⟨(show xSim l P xMT (xMuL nm) 1017 (i_bin32 (fun x y => x + y) 1018) from s_iadd dL_law_1017), ⟨(show xSim l P xMT (xMuL nm) 1018 (i_sld P.2.2.2.2.1 1019) from s_sld dL_law_1018), ⟨(show xSim l P xMT (xMuL nm) 1019 (i_call (some 11) 123 3 0 0 1022) from s_callV 11 (q_X11_unlike) t_X11_unlike m_X11_unlike dL_law_1019 rfl (xvc_11) w_893 w_894 w_895 w_892 w_249 h_X11_unlike ⟨(show q_X11_unlike.2.2.2.2.frames + 1 ≤ room_1.frames by decide +kernel), (show 8 + (q_X11_unlike.2.2.1 + 11) + q_X11_unlike.2.2.2.2.locals ≤ room_1.locals by decide +kernel)⟩), ⟨(show xSim l P xMT (xMuL nm) 1022 (i_load x_isA 2 1023) from s_aload_n dL_law_1022 rfl), ⟨(show xSim l P xMT (xMuL nm) 1023 (i_load x_isA 0 1024) from s_aload_n dL_law_1023 rfl), trivial⟩⟩⟩⟩⟩⟩⟩⟩⟩⟩⟩⟩⟩⟩
set_option maxRecDepth 100000 in
theorem o_k_L_law_64 {nm : String} {l : Launch} {P : xP} : xAll l P xMT (xMuL nm) 1024 (k_L_law_64 P.2.2.2.2.1) := ⟨(show xSim l P xMT (xMuL nm) 1024 (i_load x_isI 3 1025) from s_iload_n dL_law_1024 rfl), ⟨(show xSim l P xMT (xMuL nm) 1025 (i_push (.inl (.int (Int32.ofNat 1))) 1026) from s_iconst (Int32.ofNat 1) dL_law_1025 (by decide +kernel)), ⟨(show xSim l P xMT (xMuL nm) 1026 (i_bin32 (fun x y => x + y) 1027) from s_iadd dL_law_1026), ⟨(show xSim l P xMT (xMuL nm) 1027 (i_sld P.2.2.2.2.1 1028) from s_sld dL_law_1027), ⟨(show xSim l P xMT (xMuL nm) 1028 (i_load x_isA 0 1029) from s_aload_n dL_law_1028 rfl), ⟨(show xSim l P xMT (xMuL nm) 1029 (i_load x_isI 3 1030) from s_iload_n dL_law_1029 rfl), ⟨(show xSim l P xMT (xMuL nm) 1030 (i_push (.inl (.int (Int32.ofNat 2))) 1031) from s_iconst (Int32.ofNat 2) dL_law_1030 (by decide +kernel)), ⟨(show xSim l P xMT (xMuL nm) 1031 (i_bin32 (fun x y => x + y) 1032) from s_iadd dL_law_1031), ⟨(show xSim l P xMT (xMuL nm) 1032 (i_sld P.2.2.2.2.1 1033) from s_sld dL_law_1032), ⟨(show xSim l P xMT (xMuL nm) 1033 (i_call (some 12) 212 3 0 0 1036) from s_callV 12 (q_X12_unlike) t_X12_unlike m_X12_unlike dL_law_1033 rfl (xvc_12) w_897 w_898 w_899 w_896 w_490 h_X12_unlike ⟨(show q_X12_unlike.2.2.2.2.frames + 1 ≤ room_1.frames by decide +kernel), (show 8 + (q_X12_unlike.2.2.1 + 11) + q_X12_unlike.2.2.2.2.locals ≤ room_1.locals by decide +kernel)⟩), ⟨(show xSim l P xMT (xMuL nm) 1036 (i_icmp 2 1754 1039) from s_icmp_eq 1754 dL_law_1036 (by decide +kernel)), trivial⟩⟩⟩⟩⟩⟩⟩⟩⟩⟩⟩
set_option maxRecDepth 100000 in
theorem o_k_L_law_65 {nm : String} {l : Launch} {P : xP} : xAll l P xMT (xMuL nm) 1040 (k_L_law_65 P.2.2.2.2.1) := ⟨(show xSim l P xMT (xMuL nm) 1041 (i_load x_isA 1 1042) from s_aload_n dL_law_1041 rfl), ⟨(show xSim l P xMT (xMuL nm) 1042 (i_load x_isA 0 1043) from s_aload_n dL_law_1042 rfl), ⟨(show xSim l P xMT (xMuL nm) 1043 (i_load x_isI 3 1044) from s_iload_n dL_law_1043 rfl), ⟨(show xSim l P xMT (xMuL nm) 1044 (i_push (.inl (.int (Int32.ofNat 1))) 1045) from s_iconst (Int32.ofNat 1) dL_law_1044 (by decide +kernel)), ⟨(show xSim l P xMT (xMuL nm) 1045 (i_bin32 (fun x y => x + y) 1046) from s_iadd dL_law_1045), ⟨(show xSim l P xMT (xMuL nm) 1046 (i_sld P.2.2.2.2.1 1047) from s_sld dL_law_1046), ⟨(show xSim l P xMT (xMuL nm) 1047 (i_load x_isA 0 1048) from s_aload_n dL_law_1047 rfl), ⟨(show xSim l P xMT (xMuL nm) 1048 (i_load x_isI 3 1049) from s_iload_n dL_law_1048 rfl), ⟨(show xSim l P xMT (xMuL nm) 1049 (i_push (.inl (.int (Int32.ofNat 2))) 1050) from s_iconst (Int32.ofNat 2) dL_law_1049 (by decide +kernel)), ⟨(show xSim l P xMT (xMuL nm) 1050 (i_bin32 (fun x y => x + y) 1051) from s_iadd dL_law_1050), ⟨(show xSim l P xMT (xMuL nm) 1051 (i_sld P.2.2.2.2.1 1052) from s_sld dL_law_1051), ⟨(show xSim l P xMT (xMuL nm) 1052 (i_call (some 11) 84 3 0 0 1055) from s_callV 11 (q_X11_count) t_X11_count m_X11_count dL_law_1052 rfl (xvc_11) w_901 w_902 w_903 w_900 w_249 h_X11_count ⟨(show q_X11_count.2.2.2.2.frames + 1 ≤ room_1.frames by decide +kernel), (show 8 + (q_X11_count.2.2.1 + 11) + q_X11_count.2.2.2.2.locals ≤ room_1.locals by decide +kernel)⟩), ⟨(show xSim l P xMT (xMuL nm) 1055 (i_load x_isA 2 1056) from s_aload_n dL_law_1055 rfl), trivial⟩⟩⟩⟩⟩⟩⟩⟩⟩⟩⟩⟩⟩
set_option maxRecDepth 100000 in
theorem o_k_L_law_66 {nm : String} {l : Launch} {P : xP} : xAll l P xMT (xMuL nm) 1056 (k_L_law_66 P.2.2.2.2.1) := ⟨(show xSim l P xMT (xMuL nm) 1056 (i_load x_isA 0 1057) from s_aload_n dL_law_1056 rfl), ⟨(show xSim l P xMT (xMuL nm) 1057 (i_load x_isI 3 1058) from s_iload_n dL_law_1057 rfl), ⟨(show xSim l P xMT (xMuL nm) 1058 (i_push (.inl (.int (Int32.ofNat 1))) 1059) from s_iconst (Int32.ofNat 1) dL_law_1058 (by decide +kernel)), ⟨(show xSim l P xMT (xMuL nm) 1059 (i_bin32 (fun x y => x + y) 1060) from s_iadd dL_law_1059), ⟨(show xSim l P xMT (xMuL nm) 1060 (i_sld P.2.2.2.2.1 1061) from s_sld dL_law_1060), ⟨(show xSim l P xMT (xMuL nm) 1061 (i_load x_isA 0 1062) from s_aload_n dL_law_1061 rfl), ⟨(show xSim l P xMT (xMuL nm) 1062 (i_load x_isI 3 1063) from s_iload_n dL_law_1062 rfl), ⟨(show xSim l P xMT (xMuL nm) 1063 (i_push (.inl (.int (Int32.ofNat 2))) 1064) from s_iconst (Int32.ofNat 2) dL_law_1063 (by decide +kernel)), ⟨(show xSim l P xMT (xMuL nm) 1064 (i_bin32 (fun x y => x + y) 1065) from s_iadd dL_law_1064), ⟨(show xSim l P xMT (xMuL nm) 1065 (i_sld P.2.2.2.2.1 1066) from s_sld dL_law_1065), ⟨(show xSim l P xMT (xMuL nm) 1066 (i_call (some 12) 142 3 0 0 1069) from s_callV 12 (q_X12_count) t_X12_count m_X12_count dL_law_1066 rfl (xvc_12) w_905 w_906 w_907 w_904 w_490 h_X12_count ⟨(show q_X12_count.2.2.2.2.frames + 1 ≤ room_1.frames by decide +kernel), (show 8 + (q_X12_count.2.2.1 + 11) + q_X12_count.2.2.2.2.locals ≤ room_1.locals by decide +kernel)⟩), ⟨(show xSim l P xMT (xMuL nm) 1069 (i_icmp 2 1754 1072) from s_icmp_eq 1754 dL_law_1069 (by decide +kernel)), trivial⟩⟩⟩⟩⟩⟩⟩⟩⟩⟩⟩⟩
set_option maxRecDepth 100000 in
theorem o_k_L_law_67 {nm : String} {l : Launch} {P : xP} : xAll l P xMT (xMuL nm) 1072 (k_L_law_67 P.2.2.2.2.1) := ⟨(show xSim l P xMT (xMuL nm) 1074 (i_load x_isA 1 1075) from s_aload_n dL_law_1074 rfl), ⟨(show xSim l P xMT (xMuL nm) 1075 (i_load x_isA 0 1076) from s_aload_n dL_law_1075 rfl), ⟨(show xSim l P xMT (xMuL nm) 1076 (i_load x_isI 3 1077) from s_iload_n dL_law_1076 rfl), ⟨(show xSim l P xMT (xMuL nm) 1077 (i_push (.inl (.int (Int32.ofNat 1))) 1078) from s_iconst (Int32.ofNat 1) dL_law_1077 (by decide +kernel)), ⟨(show xSim l P xMT (xMuL nm) 1078 (i_bin32 (fun x y => x + y) 1079) from s_iadd dL_law_1078), ⟨(show xSim l P xMT (xMuL nm) 1079 (i_sld P.2.2.2.2.1 1080) from s_sld dL_law_1079), ⟨(show xSim l P xMT (xMuL nm) 1080 (i_call (some 11) 91 2 0 0 1083) from s_callV 11 (q_X11_hole) t_X11_hole m_X11_hole dL_law_1080 rfl (xvc_11) w_909 w_910 w_911 w_908 w_249 h_X11_hole ⟨(show q_X11_hole.2.2.2.2.frames + 1 ≤ room_1.frames by decide +kernel), (show 8 + (q_X11_hole.2.2.1 + 11) + q_X11_hole.2.2.2.2.locals ≤ room_1.locals by decide +kernel)⟩), ⟨(show xSim l P xMT (xMuL nm) 1083 (i_load x_isA 2 1084) from s_aload_n dL_law_1083 rfl), ⟨(show xSim l P xMT (xMuL nm) 1084 (i_load x_isA 0 1085) from s_aload_n dL_law_1084 rfl), ⟨(show xSim l P xMT (xMuL nm) 1085 (i_load x_isI 3 1086) from s_iload_n dL_law_1085 rfl), ⟨(show xSim l P xMT (xMuL nm) 1086 (i_push (.inl (.int (Int32.ofNat 1))) 1087) from s_iconst (Int32.ofNat 1) dL_law_1086 (by decide +kernel)), ⟨(show xSim l P xMT (xMuL nm) 1087 (i_bin32 (fun x y => x + y) 1088) from s_iadd dL_law_1087), trivial⟩⟩⟩⟩⟩⟩⟩⟩⟩⟩⟩⟩
set_option maxRecDepth 100000 in
theorem o_k_L_law_68 {nm : String} {l : Launch} {P : xP} : xAll l P xMT (xMuL nm) 1088 (k_L_law_68 P.2.2.2.2.1) := ⟨(show xSim l P xMT (xMuL nm) 1088 (i_sld P.2.2.2.2.1 1089) from s_sld dL_law_1088), ⟨(show xSim l P xMT (xMuL nm) 1089 (i_call (some 12) 155 2 0 0 1092) from s_callV 12 (q_X12_hole) t_X12_hole m_X12_hole dL_law_1089 rfl (xvc_12) w_913 w_914 w_915 w_912 w_490 h_X12_hole ⟨(show q_X12_hole.2.2.2.2.frames + 1 ≤ room_1.frames by decide +kernel), (show 8 + (q_X12_hole.2.2.1 + 11) + q_X12_hole.2.2.2.2.locals ≤ room_1.locals by decide +kernel)⟩), ⟨(show xSim l P xMT (xMuL nm) 1092 (i_icmp 2 1754 1095) from s_icmp_eq 1754 dL_law_1092 (by decide +kernel)), ⟨(show xSim l P xMT (xMuL nm) 1097 (i_load x_isA 1 1098) from s_aload_n dL_law_1097 rfl), ⟨(show xSim l P xMT (xMuL nm) 1098 (i_load x_isA 0 1099) from s_aload_n dL_law_1098 rfl), ⟨(show xSim l P xMT (xMuL nm) 1099 (i_load x_isI 3 1100) from s_iload_n dL_law_1099 rfl), ⟨(show xSim l P xMT (xMuL nm) 1100 (i_push (.inl (.int (Int32.ofNat 1))) 1101) from s_iconst (Int32.ofNat 1) dL_law_1100 (by decide +kernel)), ⟨(show xSim l P xMT (xMuL nm) 1101 (i_bin32 (fun x y => x + y) 1102) from s_iadd dL_law_1101), ⟨(show xSim l P xMT (xMuL nm) 1102 (i_sld P.2.2.2.2.1 1103) from s_sld dL_law_1102), ⟨(show xSim l P xMT (xMuL nm) 1103 (i_call (some 11) 124 2 0 0 1106) from s_callV 11 (q_X11_way) t_X11_way m_X11_way dL_law_1103 rfl (xvc_11) w_917 w_918 w_919 w_916 w_249 h_X11_way ⟨(show q_X11_way.2.2.2.2.frames + 1 ≤ room_1.frames by decide +kernel), (show 8 + (q_X11_way.2.2.1 + 11) + q_X11_way.2.2.2.2.locals ≤ room_1.locals by decide +kernel)⟩), trivial⟩⟩⟩⟩⟩⟩⟩⟩⟩⟩
set_option maxRecDepth 100000 in
theorem o_k_L_law_69 {nm : String} {l : Launch} {P : xP} : xAll l P xMT (xMuL nm) 1104 (k_L_law_69 P.2.2.2.2.1) := ⟨(show xSim l P xMT (xMuL nm) 1106 (i_load x_isA 2 1107) from s_aload_n dL_law_1106 rfl), ⟨(show xSim l P xMT (xMuL nm) 1107 (i_load x_isA 0 1108) from s_aload_n dL_law_1107 rfl), ⟨(show xSim l P xMT (xMuL nm) 1108 (i_load x_isI 3 1109) from s_iload_n dL_law_1108 rfl), ⟨(show xSim l P xMT (xMuL nm) 1109 (i_push (.inl (.int (Int32.ofNat 1))) 1110) from s_iconst (Int32.ofNat 1) dL_law_1109 (by decide +kernel)), ⟨(show xSim l P xMT (xMuL nm) 1110 (i_bin32 (fun x y => x + y) 1111) from s_iadd dL_law_1110), ⟨(show xSim l P xMT (xMuL nm) 1111 (i_sld P.2.2.2.2.1 1112) from s_sld dL_law_1111), ⟨(show xSim l P xMT (xMuL nm) 1112 (i_call (some 12) 214 2 0 0 1115) from s_callV 12 (q_X12_way) t_X12_way m_X12_way dL_law_1112 rfl (xvc_12) w_921 w_922 w_923 w_920 w_490 h_X12_way ⟨(show q_X12_way.2.2.2.2.frames + 1 ≤ room_1.frames by decide +kernel), (show 8 + (q_X12_way.2.2.1 + 11) + q_X12_way.2.2.2.2.locals ≤ room_1.locals by decide +kernel)⟩), ⟨(show xSim l P xMT (xMuL nm) 1115 (i_icmp 2 1754 1118) from s_icmp_eq 1754 dL_law_1115 (by decide +kernel)), trivial⟩⟩⟩⟩⟩⟩⟩⟩
set_option maxRecDepth 100000 in
theorem o_k_L_law_70 {nm : String} {l : Launch} {P : xP} : xAll l P xMT (xMuL nm) 1120 (k_L_law_70 P.2.2.2.2.1) := ⟨(show xSim l P xMT (xMuL nm) 1120 (i_load x_isA 1 1121) from s_aload_n dL_law_1120 rfl), ⟨(show xSim l P xMT (xMuL nm) 1121 (i_load x_isA 0 1122) from s_aload_n dL_law_1121 rfl), ⟨(show xSim l P xMT (xMuL nm) 1122 (i_load x_isI 3 1123) from s_iload_n dL_law_1122 rfl), ⟨(show xSim l P xMT (xMuL nm) 1123 (i_push (.inl (.int (Int32.ofNat 1))) 1124) from s_iconst (Int32.ofNat 1) dL_law_1123 (by decide +kernel)), ⟨(show xSim l P xMT (xMuL nm) 1124 (i_bin32 (fun x y => x + y) 1125) from s_iadd dL_law_1124), ⟨(show xSim l P xMT (xMuL nm) 1125 (i_sld P.2.2.2.2.1 1126) from s_sld dL_law_1125), ⟨(show xSim l P xMT (xMuL nm) 1126 (i_load x_isA 0 1127) from s_aload_n dL_law_1126 rfl), ⟨(show xSim l P xMT (xMuL nm) 1127 (i_load x_isI 3 1128) from s_iload_n dL_law_1127 rfl), ⟨(show xSim l P xMT (xMuL nm) 1128 (i_push (.inl (.int (Int32.ofNat 2))) 1129) from s_iconst (Int32.ofNat 2) dL_law_1128 (by decide +kernel)), ⟨(show xSim l P xMT (xMuL nm) 1129 (i_bin32 (fun x y => x + y) 1130) from s_iadd dL_law_1129), ⟨(show xSim l P xMT (xMuL nm) 1130 (i_sld P.2.2.2.2.1 1131) from s_sld dL_law_1130), ⟨(show xSim l P xMT (xMuL nm) 1131 (i_call (some 11) 125 3 0 0 1134) from s_callV 11 (q_X11_wayAt) t_X11_wayAt m_X11_wayAt dL_law_1131 rfl (xvc_11) w_925 w_926 w_927 w_924 w_249 h_X11_wayAt ⟨(show q_X11_wayAt.2.2.2.2.frames + 1 ≤ room_1.frames by decide +kernel), (show 8 + (q_X11_wayAt.2.2.1 + 11) + q_X11_wayAt.2.2.2.2.locals ≤ room_1.locals by decide +kernel)⟩), ⟨(show xSim l P xMT (xMuL nm) 1134 (i_load x_isA 2 1135) from s_aload_n dL_law_1134 rfl), ⟨(show xSim l P xMT (xMuL nm) 1135 (i_load x_isA 0 1136) from s_aload_n dL_law_1135 rfl), trivial⟩⟩⟩⟩⟩⟩⟩⟩⟩⟩⟩⟩⟩⟩
set_option maxRecDepth 100000 in
theorem o_k_L_law_71 {nm : String} {l : Launch} {P : xP} : xAll l P xMT (xMuL nm) 1136 (k_L_law_71 P.2.2.2.2.1) := ⟨(show xSim l P xMT (xMuL nm) 1136 (i_load x_isI 3 1137) from s_iload_n dL_law_1136 rfl), ⟨(show xSim l P xMT (xMuL nm) 1137 (i_push (.inl (.int (Int32.ofNat 1))) 1138) from s_iconst (Int32.ofNat 1) dL_law_1137 (by decide +kernel)), ⟨(show xSim l P xMT (xMuL nm) 1138 (i_bin32 (fun x y => x + y) 1139) from s_iadd dL_law_1138), ⟨(show xSim l P xMT (xMuL nm) 1139 (i_sld P.2.2.2.2.1 1140) from s_sld dL_law_1139), ⟨(show xSim l P xMT (xMuL nm) 1140 (i_load x_isA 0 1141) from s_aload_n dL_law_1140 rfl), ⟨(show xSim l P xMT (xMuL nm) 1141 (i_load x_isI 3 1142) from s_iload_n dL_law_1141 rfl), ⟨(show xSim l P xMT (xMuL nm) 1142 (i_push (.inl (.int (Int32.ofNat 2))) 1143) from s_iconst (Int32.ofNat 2) dL_law_1142 (by decide +kernel)), ⟨(show xSim l P xMT (xMuL nm) 1143 (i_bin32 (fun x y => x + y) 1144) from s_iadd dL_law_1143), ⟨(show xSim l P xMT (xMuL nm) 1144 (i_sld P.2.2.2.2.1 1145) from s_sld dL_law_1144), ⟨(show xSim l P xMT (xMuL nm) 1145 (i_call (some 12) 215 3 0 0 1148) from s_callV 12 (q_X12_wayAt) t_X12_wayAt m_X12_wayAt dL_law_1145 rfl (xvc_12) w_929 w_930 w_931 w_928 w_490 h_X12_wayAt ⟨(show q_X12_wayAt.2.2.2.2.frames + 1 ≤ room_1.frames by decide +kernel), (show 8 + (q_X12_wayAt.2.2.1 + 11) + q_X12_wayAt.2.2.2.2.locals ≤ room_1.locals by decide +kernel)⟩), ⟨(show xSim l P xMT (xMuL nm) 1148 (i_icmp 2 1754 1151) from s_icmp_eq 1754 dL_law_1148 (by decide +kernel)), trivial⟩⟩⟩⟩⟩⟩⟩⟩⟩⟩⟩
set_option maxRecDepth 100000 in
theorem o_k_L_law_72 {nm : String} {l : Launch} {P : xP} : xAll l P xMT (xMuL nm) 1152 (k_L_law_72 P.2.2.2.2.1) := ⟨(show xSim l P xMT (xMuL nm) 1153 (i_load x_isA 1 1154) from s_aload_n dL_law_1153 rfl), ⟨(show xSim l P xMT (xMuL nm) 1154 (i_load x_isA 0 1155) from s_aload_n dL_law_1154 rfl), ⟨(show xSim l P xMT (xMuL nm) 1155 (i_load x_isI 3 1156) from s_iload_n dL_law_1155 rfl), ⟨(show xSim l P xMT (xMuL nm) 1156 (i_push (.inl (.int (Int32.ofNat 1))) 1157) from s_iconst (Int32.ofNat 1) dL_law_1156 (by decide +kernel)), ⟨(show xSim l P xMT (xMuL nm) 1157 (i_bin32 (fun x y => x + y) 1158) from s_iadd dL_law_1157), ⟨(show xSim l P xMT (xMuL nm) 1158 (i_sld P.2.2.2.2.1 1159) from s_sld dL_law_1158), ⟨(show xSim l P xMT (xMuL nm) 1159 (i_call (some 11) 97 2 0 0 1162) from s_callV 11 (q_X11_march) t_X11_march m_X11_march dL_law_1159 rfl (xvc_11) w_933 w_934 w_935 w_932 w_249 h_X11_march ⟨(show q_X11_march.2.2.2.2.frames + 1 ≤ room_1.frames by decide +kernel), (show 8 + (q_X11_march.2.2.1 + 11) + q_X11_march.2.2.2.2.locals ≤ room_1.locals by decide +kernel)⟩), ⟨(show xSim l P xMT (xMuL nm) 1162 (i_load x_isA 2 1163) from s_aload_n dL_law_1162 rfl), ⟨(show xSim l P xMT (xMuL nm) 1163 (i_load x_isA 0 1164) from s_aload_n dL_law_1163 rfl), ⟨(show xSim l P xMT (xMuL nm) 1164 (i_load x_isI 3 1165) from s_iload_n dL_law_1164 rfl), ⟨(show xSim l P xMT (xMuL nm) 1165 (i_push (.inl (.int (Int32.ofNat 1))) 1166) from s_iconst (Int32.ofNat 1) dL_law_1165 (by decide +kernel)), ⟨(show xSim l P xMT (xMuL nm) 1166 (i_bin32 (fun x y => x + y) 1167) from s_iadd dL_law_1166), ⟨(show xSim l P xMT (xMuL nm) 1167 (i_sld P.2.2.2.2.1 1168) from s_sld dL_law_1167), trivial⟩⟩⟩⟩⟩⟩⟩⟩⟩⟩⟩⟩⟩
set_option maxRecDepth 100000 in
theorem o_k_L_law_73 {nm : String} {l : Launch} {P : xP} : xAll l P xMT (xMuL nm) 1168 (k_L_law_73 P.2.2.2.2.1) := ⟨(show xSim l P xMT (xMuL nm) 1168 (i_call (some 12) 175 2 0 0 1171) from s_callV 12 (q_X12_march) t_X12_march m_X12_march dL_law_1168 rfl (xvc_12) w_937 w_938 w_939 w_936 w_490 h_X12_march ⟨(show q_X12_march.2.2.2.2.frames + 1 ≤ room_1.frames by decide +kernel), (show 8 + (q_X12_march.2.2.1 + 11) + q_X12_march.2.2.2.2.locals ≤ room_1.locals by decide +kernel)⟩), ⟨(show xSim l P xMT (xMuL nm) 1171 (i_icmp 2 1754 1174) from s_icmp_eq 1754 dL_law_1171 (by decide +kernel)), ⟨(show xSim l P xMT (xMuL nm) 1176 (i_load x_isA 1 1177) from s_aload_n dL_law_1176 rfl), ⟨(show xSim l P xMT (xMuL nm) 1177 (i_call (some 11) 116 1 0 0 1180) from s_callV 11 (q_X11_stuck) t_X11_stuck m_X11_stuck dL_law_1177 rfl (xvc_11) w_941 w_942 w_943 w_940 w_249 h_X11_stuck ⟨(show q_X11_stuck.2.2.2.2.frames + 1 ≤ room_1.frames by decide +kernel), (show 8 + (q_X11_stuck.2.2.1 + 11) + q_X11_stuck.2.2.2.2.locals ≤ room_1.locals by decide +kernel)⟩), ⟨(show xSim l P xMT (xMuL nm) 1180 (i_load x_isA 2 1181) from s_aload_n dL_law_1180 rfl), ⟨(show xSim l P xMT (xMuL nm) 1181 (i_call (some 12) 203 1 0 0 1184) from s_callV 12 (q_X12_stuck) t_X12_stuck m_X12_stuck dL_law_1181 rfl (xvc_12) w_945 w_946 w_947 w_944 w_490 h_X12_stuck ⟨(show q_X12_stuck.2.2.2.2.frames + 1 ≤ room_1.frames by decide +kernel), (show 8 + (q_X12_stuck.2.2.1 + 11) + q_X12_stuck.2.2.2.2.locals ≤ room_1.locals by decide +kernel)⟩), trivial⟩⟩⟩⟩⟩⟩
set_option maxRecDepth 100000 in
theorem o_k_L_law_74 {nm : String} {l : Launch} {P : xP} : xAll l P xMT (xMuL nm) 1184 (k_L_law_74 P.2.2.2.2.1) := ⟨(show xSim l P xMT (xMuL nm) 1184 (i_icmp 2 1754 1187) from s_icmp_eq 1754 dL_law_1184 (by decide +kernel)), ⟨(show xSim l P xMT (xMuL nm) 1189 (i_load x_isA 1 1190) from s_aload_n dL_law_1189 rfl), ⟨(show xSim l P xMT (xMuL nm) 1190 (i_load x_isA 0 1191) from s_aload_n dL_law_1190 rfl), ⟨(show xSim l P xMT (xMuL nm) 1191 (i_load x_isI 3 1192) from s_iload_n dL_law_1191 rfl), ⟨(show xSim l P xMT (xMuL nm) 1192 (i_push (.inl (.int (Int32.ofNat 1))) 1193) from s_iconst (Int32.ofNat 1) dL_law_1192 (by decide +kernel)), ⟨(show xSim l P xMT (xMuL nm) 1193 (i_bin32 (fun x y => x + y) 1194) from s_iadd dL_law_1193), ⟨(show xSim l P xMT (xMuL nm) 1194 (i_sld P.2.2.2.2.1 1195) from s_sld dL_law_1194), ⟨(show xSim l P xMT (xMuL nm) 1195 (i_call (some 11) 122 2 0 0 1198) from s_callV 11 (q_X11_truly) t_X11_truly m_X11_truly dL_law_1195 rfl (xvc_11) w_949 w_950 w_951 w_948 w_249 h_X11_truly ⟨(show q_X11_truly.2.2.2.2.frames + 1 ≤ room_1.frames by decide +kernel), (show 8 + (q_X11_truly.2.2.1 + 11) + q_X11_truly.2.2.2.2.locals ≤ room_1.locals by decide +kernel)⟩), ⟨(show xSim l P xMT (xMuL nm) 1198 (i_load x_isA 2 1199) from s_aload_n dL_law_1198 rfl), ⟨(show xSim l P xMT (xMuL nm) 1199 (i_load x_isA 0 1200) from s_aload_n dL_law_1199 rfl), trivial⟩⟩⟩⟩⟩⟩⟩⟩⟩⟩
set_option maxRecDepth 100000 in
theorem o_k_L_law_75 {nm : String} {l : Launch} {P : xP} : xAll l P xMT (xMuL nm) 1200 (k_L_law_75 P.2.2.2.2.1) := ⟨(show xSim l P xMT (xMuL nm) 1200 (i_load x_isI 3 1201) from s_iload_n dL_law_1200 rfl), ⟨(show xSim l P xMT (xMuL nm) 1201 (i_push (.inl (.int (Int32.ofNat 1))) 1202) from s_iconst (Int32.ofNat 1) dL_law_1201 (by decide +kernel)), ⟨(show xSim l P xMT (xMuL nm) 1202 (i_bin32 (fun x y => x + y) 1203) from s_iadd dL_law_1202), ⟨(show xSim l P xMT (xMuL nm) 1203 (i_sld P.2.2.2.2.1 1204) from s_sld dL_law_1203), ⟨(show xSim l P xMT (xMuL nm) 1204 (i_call (some 12) 211 2 0 0 1207) from s_callV 12 (q_X12_truly) t_X12_truly m_X12_truly dL_law_1204 rfl (xvc_12) w_953 w_954 w_955 w_952 w_490 h_X12_truly ⟨(show q_X12_truly.2.2.2.2.frames + 1 ≤ room_1.frames by decide +kernel), (show 8 + (q_X12_truly.2.2.1 + 11) + q_X12_truly.2.2.2.2.locals ≤ room_1.locals by decide +kernel)⟩), ⟨(show xSim l P xMT (xMuL nm) 1207 (i_icmp 2 1754 1210) from s_icmp_eq 1754 dL_law_1207 (by decide +kernel)), ⟨(show xSim l P xMT (xMuL nm) 1212 (i_load x_isA 1 1213) from s_aload_n dL_law_1212 rfl), ⟨(show xSim l P xMT (xMuL nm) 1213 (i_load x_isA 0 1214) from s_aload_n dL_law_1213 rfl), ⟨(show xSim l P xMT (xMuL nm) 1214 (i_load x_isI 3 1215) from s_iload_n dL_law_1214 rfl), ⟨(show xSim l P xMT (xMuL nm) 1215 (i_push (.inl (.int (Int32.ofNat 1))) 1216) from s_iconst (Int32.ofNat 1) dL_law_1215 (by decide +kernel)), trivial⟩⟩⟩⟩⟩⟩⟩⟩⟩⟩
set_option maxRecDepth 100000 in
theorem o_k_L_law_76 {nm : String} {l : Launch} {P : xP} : xAll l P xMT (xMuL nm) 1216 (k_L_law_76 P.2.2.2.2.1) := ⟨(show xSim l P xMT (xMuL nm) 1216 (i_bin32 (fun x y => x + y) 1217) from s_iadd dL_law_1216), ⟨(show xSim l P xMT (xMuL nm) 1217 (i_sld P.2.2.2.2.1 1218) from s_sld dL_law_1217), ⟨(show xSim l P xMT (xMuL nm) 1218 (i_call (some 11) 77 2 0 0 1221) from s_callV 11 (q_X11_best) t_X11_best m_X11_best dL_law_1218 rfl (xvc_11) w_957 w_958 w_959 w_956 w_249 h_X11_best ⟨(show q_X11_best.2.2.2.2.frames + 1 ≤ room_1.frames by decide +kernel), (show 8 + (q_X11_best.2.2.1 + 11) + q_X11_best.2.2.2.2.locals ≤ room_1.locals by decide +kernel)⟩), ⟨(show xSim l P xMT (xMuL nm) 1221 (i_load x_isA 2 1222) from s_aload_n dL_law_1221 rfl), ⟨(show xSim l P xMT (xMuL nm) 1222 (i_load x_isA 0 1223) from s_aload_n dL_law_1222 rfl), ⟨(show xSim l P xMT (xMuL nm) 1223 (i_load x_isI 3 1224) from s_iload_n dL_law_1223 rfl), ⟨(show xSim l P xMT (xMuL nm) 1224 (i_push (.inl (.int (Int32.ofNat 1))) 1225) from s_iconst (Int32.ofNat 1) dL_law_1224 (by decide +kernel)), ⟨(show xSim l P xMT (xMuL nm) 1225 (i_bin32 (fun x y => x + y) 1226) from s_iadd dL_law_1225), ⟨(show xSim l P xMT (xMuL nm) 1226 (i_sld P.2.2.2.2.1 1227) from s_sld dL_law_1226), ⟨(show xSim l P xMT (xMuL nm) 1227 (i_call (some 12) 133 2 0 0 1230) from s_callV 12 (q_X12_best) t_X12_best m_X12_best dL_law_1227 rfl (xvc_12) w_961 w_962 w_963 w_960 w_490 h_X12_best ⟨(show q_X12_best.2.2.2.2.frames + 1 ≤ room_1.frames by decide +kernel), (show 8 + (q_X12_best.2.2.1 + 11) + q_X12_best.2.2.2.2.locals ≤ room_1.locals by decide +kernel)⟩), ⟨(show xSim l P xMT (xMuL nm) 1230 (i_icmp 2 1754 1233) from s_icmp_eq 1754 dL_law_1230 (by decide +kernel)), trivial⟩⟩⟩⟩⟩⟩⟩⟩⟩⟩⟩
set_option maxRecDepth 100000 in
theorem o_k_L_law_77 {nm : String} {l : Launch} {P : xP} : xAll l P xMT (xMuL nm) 1232 (k_L_law_77 P.2.2.2.2.1) := ⟨(show xSim l P xMT (xMuL nm) 1235 (i_load x_isA 1 1236) from s_aload_n dL_law_1235 rfl), ⟨(show xSim l P xMT (xMuL nm) 1236 (i_load x_isA 0 1237) from s_aload_n dL_law_1236 rfl), ⟨(show xSim l P xMT (xMuL nm) 1237 (i_load x_isI 3 1238) from s_iload_n dL_law_1237 rfl), ⟨(show xSim l P xMT (xMuL nm) 1238 (i_push (.inl (.int (Int32.ofNat 1))) 1239) from s_iconst (Int32.ofNat 1) dL_law_1238 (by decide +kernel)), ⟨(show xSim l P xMT (xMuL nm) 1239 (i_bin32 (fun x y => x + y) 1240) from s_iadd dL_law_1239), ⟨(show xSim l P xMT (xMuL nm) 1240 (i_sld P.2.2.2.2.1 1241) from s_sld dL_law_1240), ⟨(show xSim l P xMT (xMuL nm) 1241 (i_load x_isA 0 1242) from s_aload_n dL_law_1241 rfl), ⟨(show xSim l P xMT (xMuL nm) 1242 (i_load x_isI 3 1243) from s_iload_n dL_law_1242 rfl), ⟨(show xSim l P xMT (xMuL nm) 1243 (i_push (.inl (.int (Int32.ofNat 2))) 1244) from s_iconst (Int32.ofNat 2) dL_law_1243 (by decide +kernel)), ⟨(show xSim l P xMT (xMuL nm) 1244 (i_bin32 (fun x y => x + y) 1245) from s_iadd dL_law_1244), ⟨(show xSim l P xMT (xMuL nm) 1245 (i_sld P.2.2.2.2.1 1246) from s_sld dL_law_1245), ⟨(show xSim l P xMT (xMuL nm) 1246 (i_call (some 11) 90 3 0 0 1249) from s_callV 11 (q_X11_hand) t_X11_hand m_X11_hand dL_law_1246 rfl (xvc_11) w_965 w_966 w_967 w_964 w_249 h_X11_hand ⟨(show q_X11_hand.2.2.2.2.frames + 1 ≤ room_1.frames by decide +kernel), (show 8 + (q_X11_hand.2.2.1 + 11) + q_X11_hand.2.2.2.2.locals ≤ room_1.locals by decide +kernel)⟩), trivial⟩⟩⟩⟩⟩⟩⟩⟩⟩⟩⟩⟩
set_option maxRecDepth 100000 in
theorem o_k_L_law_78 {nm : String} {l : Launch} {P : xP} : xAll l P xMT (xMuL nm) 1248 (k_L_law_78 P.2.2.2.2.1) := ⟨(show xSim l P xMT (xMuL nm) 1249 (i_load x_isA 2 1250) from s_aload_n dL_law_1249 rfl), ⟨(show xSim l P xMT (xMuL nm) 1250 (i_load x_isA 0 1251) from s_aload_n dL_law_1250 rfl), ⟨(show xSim l P xMT (xMuL nm) 1251 (i_load x_isI 3 1252) from s_iload_n dL_law_1251 rfl), ⟨(show xSim l P xMT (xMuL nm) 1252 (i_push (.inl (.int (Int32.ofNat 1))) 1253) from s_iconst (Int32.ofNat 1) dL_law_1252 (by decide +kernel)), ⟨(show xSim l P xMT (xMuL nm) 1253 (i_bin32 (fun x y => x + y) 1254) from s_iadd dL_law_1253), ⟨(show xSim l P xMT (xMuL nm) 1254 (i_sld P.2.2.2.2.1 1255) from s_sld dL_law_1254), ⟨(show xSim l P xMT (xMuL nm) 1255 (i_load x_isA 0 1256) from s_aload_n dL_law_1255 rfl), ⟨(show xSim l P xMT (xMuL nm) 1256 (i_load x_isI 3 1257) from s_iload_n dL_law_1256 rfl), ⟨(show xSim l P xMT (xMuL nm) 1257 (i_push (.inl (.int (Int32.ofNat 2))) 1258) from s_iconst (Int32.ofNat 2) dL_law_1257 (by decide +kernel)), ⟨(show xSim l P xMT (xMuL nm) 1258 (i_bin32 (fun x y => x + y) 1259) from s_iadd dL_law_1258), ⟨(show xSim l P xMT (xMuL nm) 1259 (i_sld P.2.2.2.2.1 1260) from s_sld dL_law_1259), ⟨(show xSim l P xMT (xMuL nm) 1260 (i_call (some 12) 154 3 0 0 1263) from s_callV 12 (q_X12_hand) t_X12_hand m_X12_hand dL_law_1260 rfl (xvc_12) w_969 w_970 w_971 w_968 w_490 h_X12_hand ⟨(show q_X12_hand.2.2.2.2.frames + 1 ≤ room_1.frames by decide +kernel), (show 8 + (q_X12_hand.2.2.1 + 11) + q_X12_hand.2.2.2.2.locals ≤ room_1.locals by decide +kernel)⟩), ⟨(show xSim l P xMT (xMuL nm) 1263 (i_icmp 2 1754 1266) from s_icmp_eq 1754 dL_law_1263 (by decide +kernel)), trivial⟩⟩⟩⟩⟩⟩⟩⟩⟩⟩⟩⟩⟩
set_option maxRecDepth 100000 in
theorem o_k_L_law_79 {nm : String} {l : Launch} {P : xP} : xAll l P xMT (xMuL nm) 1264 (k_L_law_79 P.2.2.2.2.1) := ⟨(show xSim l P xMT (xMuL nm) 1268 (i_load x_isA 1 1269) from s_aload_n dL_law_1268 rfl), ⟨(show xSim l P xMT (xMuL nm) 1269 (i_call (some 11) 107 1 0 0 1272) from s_callV 11 (q_X11_reach) t_X11_reach m_X11_reach dL_law_1269 rfl (xvc_11) w_973 w_974 w_975 w_972 w_249 h_X11_reach ⟨(show q_X11_reach.2.2.2.2.frames + 1 ≤ room_1.frames by decide +kernel), (show 8 + (q_X11_reach.2.2.1 + 11) + q_X11_reach.2.2.2.2.locals ≤ room_1.locals by decide +kernel)⟩), ⟨(show xSim l P xMT (xMuL nm) 1272 (i_load x_isA 2 1273) from s_aload_n dL_law_1272 rfl), ⟨(show xSim l P xMT (xMuL nm) 1273 (i_call (some 12) 190 1 0 0 1276) from s_callV 12 (q_X12_reach) t_X12_reach m_X12_reach dL_law_1273 rfl (xvc_12) w_977 w_978 w_979 w_976 w_490 h_X12_reach ⟨(show q_X12_reach.2.2.2.2.frames + 1 ≤ room_1.frames by decide +kernel), (show 8 + (q_X12_reach.2.2.1 + 11) + q_X12_reach.2.2.2.2.locals ≤ room_1.locals by decide +kernel)⟩), ⟨(show xSim l P xMT (xMuL nm) 1276 (i_icmp 2 1754 1279) from s_icmp_eq 1754 dL_law_1276 (by decide +kernel)), trivial⟩⟩⟩⟩⟩
set_option maxRecDepth 100000 in
theorem o_k_L_law_80 {nm : String} {l : Launch} {P : xP} : xAll l P xMT (xMuL nm) 1280 (k_L_law_80 P.2.2.2.2.1) := ⟨(show xSim l P xMT (xMuL nm) 1281 (i_load x_isA 1 1282) from s_aload_n dL_law_1281 rfl), ⟨(show xSim l P xMT (xMuL nm) 1282 (i_load x_isA 0 1283) from s_aload_n dL_law_1282 rfl), ⟨(show xSim l P xMT (xMuL nm) 1283 (i_load x_isI 3 1284) from s_iload_n dL_law_1283 rfl), ⟨(show xSim l P xMT (xMuL nm) 1284 (i_push (.inl (.int (Int32.ofNat 1))) 1285) from s_iconst (Int32.ofNat 1) dL_law_1284 (by decide +kernel)), ⟨(show xSim l P xMT (xMuL nm) 1285 (i_bin32 (fun x y => x + y) 1286) from s_iadd dL_law_1285), ⟨(show xSim l P xMT (xMuL nm) 1286 (i_sld P.2.2.2.2.1 1287) from s_sld dL_law_1286), ⟨(show xSim l P xMT (xMuL nm) 1287 (i_load x_isA 0 1288) from s_aload_n dL_law_1287 rfl), ⟨(show xSim l P xMT (xMuL nm) 1288 (i_load x_isI 3 1289) from s_iload_n dL_law_1288 rfl), ⟨(show xSim l P xMT (xMuL nm) 1289 (i_push (.inl (.int (Int32.ofNat 2))) 1290) from s_iconst (Int32.ofNat 2) dL_law_1289 (by decide +kernel)), ⟨(show xSim l P xMT (xMuL nm) 1290 (i_bin32 (fun x y => x + y) 1291) from s_iadd dL_law_1290), ⟨(show xSim l P xMT (xMuL nm) 1291 (i_sld P.2.2.2.2.1 1292) from s_sld dL_law_1291), ⟨(show xSim l P xMT (xMuL nm) 1292 (i_call (some 11) 112 3 0 0 1295) from s_callV 11 (q_X11_seen) t_X11_seen m_X11_seen dL_law_1292 rfl (xvc_11) w_981 w_982 w_983 w_980 w_249 h_X11_seen ⟨(show q_X11_seen.2.2.2.2.frames + 1 ≤ room_1.frames by decide +kernel), (show 8 + (q_X11_seen.2.2.1 + 11) + q_X11_seen.2.2.2.2.locals ≤ room_1.locals by decide +kernel)⟩), ⟨(show xSim l P xMT (xMuL nm) 1295 (i_load x_isA 2 1296) from s_aload_n dL_law_1295 rfl), trivial⟩⟩⟩⟩⟩⟩⟩⟩⟩⟩⟩⟩⟩
set_option maxRecDepth 100000 in
theorem o_k_L_law_81 {nm : String} {l : Launch} {P : xP} : xAll l P xMT (xMuL nm) 1296 (k_L_law_81 P.2.2.2.2.1) := ⟨(show xSim l P xMT (xMuL nm) 1296 (i_load x_isA 0 1297) from s_aload_n dL_law_1296 rfl), ⟨(show xSim l P xMT (xMuL nm) 1297 (i_load x_isI 3 1298) from s_iload_n dL_law_1297 rfl), ⟨(show xSim l P xMT (xMuL nm) 1298 (i_push (.inl (.int (Int32.ofNat 1))) 1299) from s_iconst (Int32.ofNat 1) dL_law_1298 (by decide +kernel)), ⟨(show xSim l P xMT (xMuL nm) 1299 (i_bin32 (fun x y => x + y) 1300) from s_iadd dL_law_1299), ⟨(show xSim l P xMT (xMuL nm) 1300 (i_sld P.2.2.2.2.1 1301) from s_sld dL_law_1300), ⟨(show xSim l P xMT (xMuL nm) 1301 (i_load x_isA 0 1302) from s_aload_n dL_law_1301 rfl), ⟨(show xSim l P xMT (xMuL nm) 1302 (i_load x_isI 3 1303) from s_iload_n dL_law_1302 rfl), ⟨(show xSim l P xMT (xMuL nm) 1303 (i_push (.inl (.int (Int32.ofNat 2))) 1304) from s_iconst (Int32.ofNat 2) dL_law_1303 (by decide +kernel)), ⟨(show xSim l P xMT (xMuL nm) 1304 (i_bin32 (fun x y => x + y) 1305) from s_iadd dL_law_1304), ⟨(show xSim l P xMT (xMuL nm) 1305 (i_sld P.2.2.2.2.1 1306) from s_sld dL_law_1305), ⟨(show xSim l P xMT (xMuL nm) 1306 (i_call (some 12) 195 3 0 0 1309) from s_callV 12 (q_X12_seen) t_X12_seen m_X12_seen dL_law_1306 rfl (xvc_12) w_985 w_986 w_987 w_984 w_490 h_X12_seen ⟨(show q_X12_seen.2.2.2.2.frames + 1 ≤ room_1.frames by decide +kernel), (show 8 + (q_X12_seen.2.2.1 + 11) + q_X12_seen.2.2.2.2.locals ≤ room_1.locals by decide +kernel)⟩), ⟨(show xSim l P xMT (xMuL nm) 1309 (i_icmp 2 1754 1312) from s_icmp_eq 1754 dL_law_1309 (by decide +kernel)), trivial⟩⟩⟩⟩⟩⟩⟩⟩⟩⟩⟩⟩
set_option maxRecDepth 100000 in
theorem o_k_L_law_82 {nm : String} {l : Launch} {P : xP} : xAll l P xMT (xMuL nm) 1312 (k_L_law_82 P.2.2.2.2.1) := ⟨(show xSim l P xMT (xMuL nm) 1314 (i_load x_isA 1 1315) from s_aload_n dL_law_1314 rfl), ⟨(show xSim l P xMT (xMuL nm) 1315 (i_load x_isA 0 1316) from s_aload_n dL_law_1315 rfl), ⟨(show xSim l P xMT (xMuL nm) 1316 (i_load x_isI 3 1317) from s_iload_n dL_law_1316 rfl), ⟨(show xSim l P xMT (xMuL nm) 1317 (i_push (.inl (.int (Int32.ofNat 1))) 1318) from s_iconst (Int32.ofNat 1) dL_law_1317 (by decide +kernel)), ⟨(show xSim l P xMT (xMuL nm) 1318 (i_bin32 (fun x y => x + y) 1319) from s_iadd dL_law_1318), ⟨(show xSim l P xMT (xMuL nm) 1319 (i_sld P.2.2.2.2.1 1320) from s_sld dL_law_1319), ⟨(show xSim l P xMT (xMuL nm) 1320 (i_load x_isA 0 1321) from s_aload_n dL_law_1320 rfl), ⟨(show xSim l P xMT (xMuL nm) 1321 (i_load x_isI 3 1322) from s_iload_n dL_law_1321 rfl), ⟨(show xSim l P xMT (xMuL nm) 1322 (i_push (.inl (.int (Int32.ofNat 2))) 1323) from s_iconst (Int32.ofNat 2) dL_law_1322 (by decide +kernel)), ⟨(show xSim l P xMT (xMuL nm) 1323 (i_bin32 (fun x y => x + y) 1324) from s_iadd dL_law_1323), ⟨(show xSim l P xMT (xMuL nm) 1324 (i_sld P.2.2.2.2.1 1325) from s_sld dL_law_1324), ⟨(show xSim l P xMT (xMuL nm) 1325 (i_load x_isA 0 1326) from s_aload_n dL_law_1325 rfl), ⟨(show xSim l P xMT (xMuL nm) 1326 (i_load x_isI 3 1327) from s_iload_n dL_law_1326 rfl), ⟨(show xSim l P xMT (xMuL nm) 1327 (i_push (.inl (.int (Int32.ofNat 3))) 1328) from s_iconst (Int32.ofNat 3) dL_law_1327 (by decide +kernel)), trivial⟩⟩⟩⟩⟩⟩⟩⟩⟩⟩⟩⟩⟩⟩
set_option maxRecDepth 100000 in
theorem o_k_L_law_83 {nm : String} {l : Launch} {P : xP} : xAll l P xMT (xMuL nm) 1328 (k_L_law_83 P.2.2.2.2.1) := ⟨(show xSim l P xMT (xMuL nm) 1328 (i_bin32 (fun x y => x + y) 1329) from s_iadd dL_law_1328), ⟨(show xSim l P xMT (xMuL nm) 1329 (i_sld P.2.2.2.2.1 1330) from s_sld dL_law_1329), ⟨(show xSim l P xMT (xMuL nm) 1330 (i_call (some 11) 117 4 0 0 1333) from s_callV 11 (q_X11_supper) t_X11_supper m_X11_supper dL_law_1330 rfl (xvc_11) w_989 w_990 w_991 w_988 w_249 h_X11_supper ⟨(show q_X11_supper.2.2.2.2.frames + 1 ≤ room_1.frames by decide +kernel), (show 8 + (q_X11_supper.2.2.1 + 11) + q_X11_supper.2.2.2.2.locals ≤ room_1.locals by decide +kernel)⟩), ⟨(show xSim l P xMT (xMuL nm) 1333 (i_load x_isA 2 1334) from s_aload_n dL_law_1333 rfl), ⟨(show xSim l P xMT (xMuL nm) 1334 (i_load x_isA 0 1335) from s_aload_n dL_law_1334 rfl), ⟨(show xSim l P xMT (xMuL nm) 1335 (i_load x_isI 3 1336) from s_iload_n dL_law_1335 rfl), ⟨(show xSim l P xMT (xMuL nm) 1336 (i_push (.inl (.int (Int32.ofNat 1))) 1337) from s_iconst (Int32.ofNat 1) dL_law_1336 (by decide +kernel)), ⟨(show xSim l P xMT (xMuL nm) 1337 (i_bin32 (fun x y => x + y) 1338) from s_iadd dL_law_1337), ⟨(show xSim l P xMT (xMuL nm) 1338 (i_sld P.2.2.2.2.1 1339) from s_sld dL_law_1338), ⟨(show xSim l P xMT (xMuL nm) 1339 (i_load x_isA 0 1340) from s_aload_n dL_law_1339 rfl), ⟨(show xSim l P xMT (xMuL nm) 1340 (i_load x_isI 3 1341) from s_iload_n dL_law_1340 rfl), ⟨(show xSim l P xMT (xMuL nm) 1341 (i_push (.inl (.int (Int32.ofNat 2))) 1342) from s_iconst (Int32.ofNat 2) dL_law_1341 (by decide +kernel)), ⟨(show xSim l P xMT (xMuL nm) 1342 (i_bin32 (fun x y => x + y) 1343) from s_iadd dL_law_1342), ⟨(show xSim l P xMT (xMuL nm) 1343 (i_sld P.2.2.2.2.1 1344) from s_sld dL_law_1343), trivial⟩⟩⟩⟩⟩⟩⟩⟩⟩⟩⟩⟩⟩⟩
set_option maxRecDepth 100000 in
theorem o_k_L_law_84 {nm : String} {l : Launch} {P : xP} : xAll l P xMT (xMuL nm) 1344 (k_L_law_84 P.2.2.2.2.1) := ⟨(show xSim l P xMT (xMuL nm) 1344 (i_load x_isA 0 1345) from s_aload_n dL_law_1344 rfl), ⟨(show xSim l P xMT (xMuL nm) 1345 (i_load x_isI 3 1346) from s_iload_n dL_law_1345 rfl), ⟨(show xSim l P xMT (xMuL nm) 1346 (i_push (.inl (.int (Int32.ofNat 3))) 1347) from s_iconst (Int32.ofNat 3) dL_law_1346 (by decide +kernel)), ⟨(show xSim l P xMT (xMuL nm) 1347 (i_bin32 (fun x y => x + y) 1348) from s_iadd dL_law_1347), ⟨(show xSim l P xMT (xMuL nm) 1348 (i_sld P.2.2.2.2.1 1349) from s_sld dL_law_1348), ⟨(show xSim l P xMT (xMuL nm) 1349 (i_call (some 12) 205 4 0 0 1352) from s_callV 12 (q_X12_supper) t_X12_supper m_X12_supper dL_law_1349 rfl (xvc_12) w_993 w_994 w_995 w_992 w_490 h_X12_supper ⟨(show q_X12_supper.2.2.2.2.frames + 1 ≤ room_1.frames by decide +kernel), (show 8 + (q_X12_supper.2.2.1 + 11) + q_X12_supper.2.2.2.2.locals ≤ room_1.locals by decide +kernel)⟩), ⟨(show xSim l P xMT (xMuL nm) 1352 (i_icmp 2 1754 1355) from s_icmp_eq 1754 dL_law_1352 (by decide +kernel)), ⟨(show xSim l P xMT (xMuL nm) 1357 (i_load x_isA 1 1358) from s_aload_n dL_law_1357 rfl), ⟨(show xSim l P xMT (xMuL nm) 1358 (i_load x_isA 0 1359) from s_aload_n dL_law_1358 rfl), ⟨(show xSim l P xMT (xMuL nm) 1359 (i_load x_isI 3 1360) from s_iload_n dL_law_1359 rfl), trivial⟩⟩⟩⟩⟩⟩⟩⟩⟩⟩
set_option maxRecDepth 100000 in
theorem o_k_L_law_85 {nm : String} {l : Launch} {P : xP} : xAll l P xMT (xMuL nm) 1360 (k_L_law_85 P.2.2.2.2.1) := ⟨(show xSim l P xMT (xMuL nm) 1360 (i_push (.inl (.int (Int32.ofNat 1))) 1361) from s_iconst (Int32.ofNat 1) dL_law_1360 (by decide +kernel)), ⟨(show xSim l P xMT (xMuL nm) 1361 (i_bin32 (fun x y => x + y) 1362) from s_iadd dL_law_1361), ⟨(show xSim l P xMT (xMuL nm) 1362 (i_sld P.2.2.2.2.1 1363) from s_sld dL_law_1362), ⟨(show xSim l P xMT (xMuL nm) 1363 (i_call (some 11) 85 2 0 0 1366) from s_callV 11 (q_X11_cut) t_X11_cut m_X11_cut dL_law_1363 rfl (xvc_11) w_997 w_998 w_999 w_996 w_249 h_X11_cut ⟨(show q_X11_cut.2.2.2.2.frames + 1 ≤ room_1.frames by decide +kernel), (show 8 + (q_X11_cut.2.2.1 + 11) + q_X11_cut.2.2.2.2.locals ≤ room_1.locals by decide +kernel)⟩), ⟨(show xSim l P xMT (xMuL nm) 1366 (i_load x_isA 2 1367) from s_aload_n dL_law_1366 rfl), ⟨(show xSim l P xMT (xMuL nm) 1367 (i_load x_isA 0 1368) from s_aload_n dL_law_1367 rfl), ⟨(show xSim l P xMT (xMuL nm) 1368 (i_load x_isI 3 1369) from s_iload_n dL_law_1368 rfl), ⟨(show xSim l P xMT (xMuL nm) 1369 (i_push (.inl (.int (Int32.ofNat 1))) 1370) from s_iconst (Int32.ofNat 1) dL_law_1369 (by decide +kernel)), ⟨(show xSim l P xMT (xMuL nm) 1370 (i_bin32 (fun x y => x + y) 1371) from s_iadd dL_law_1370), ⟨(show xSim l P xMT (xMuL nm) 1371 (i_sld P.2.2.2.2.1 1372) from s_sld dL_law_1371), ⟨(show xSim l P xMT (xMuL nm) 1372 (i_call (some 12) 145 2 0 0 1375) from s_callV 12 (q_X12_cut_) t_X12_cut_ m_X12_cut_ dL_law_1372 rfl (xvc_12) w_1001 w_1002 w_1003 w_1000 w_490 h_X12_cut_ ⟨(show q_X12_cut_.2.2.2.2.frames + 1 ≤ room_1.frames by decide +kernel), (show 8 + (q_X12_cut_.2.2.1 + 11) + q_X12_cut_.2.2.2.2.locals ≤ room_1.locals by decide +kernel)⟩), ⟨(show xSim l P xMT (xMuL nm) 1375 (i_icmp 2 1754 1378) from s_icmp_eq 1754 dL_law_1375 (by decide +kernel)), trivial⟩⟩⟩⟩⟩⟩⟩⟩⟩⟩⟩⟩
set_option maxRecDepth 100000 in
theorem o_k_L_law_86 {nm : String} {l : Launch} {P : xP} : xAll l P xMT (xMuL nm) 1376 (k_L_law_86 P.2.2.2.2.1) := ⟨(show xSim l P xMT (xMuL nm) 1380 (i_load x_isA 1 1381) from s_aload_n dL_law_1380 rfl), ⟨(show xSim l P xMT (xMuL nm) 1381 (i_load x_isA 0 1382) from s_aload_n dL_law_1381 rfl), ⟨(show xSim l P xMT (xMuL nm) 1382 (i_load x_isI 3 1383) from s_iload_n dL_law_1382 rfl), ⟨(show xSim l P xMT (xMuL nm) 1383 (i_push (.inl (.int (Int32.ofNat 1))) 1384) from s_iconst (Int32.ofNat 1) dL_law_1383 (by decide +kernel)), ⟨(show xSim l P xMT (xMuL nm) 1384 (i_bin32 (fun x y => x + y) 1385) from s_iadd dL_law_1384), ⟨(show xSim l P xMT (xMuL nm) 1385 (i_sld P.2.2.2.2.1 1386) from s_sld dL_law_1385), ⟨(show xSim l P xMT (xMuL nm) 1386 (i_load x_isA 0 1387) from s_aload_n dL_law_1386 rfl), ⟨(show xSim l P xMT (xMuL nm) 1387 (i_load x_isI 3 1388) from s_iload_n dL_law_1387 rfl), ⟨(show xSim l P xMT (xMuL nm) 1388 (i_push (.inl (.int (Int32.ofNat 2))) 1389) from s_iconst (Int32.ofNat 2) dL_law_1388 (by decide +kernel)), ⟨(show xSim l P xMT (xMuL nm) 1389 (i_bin32 (fun x y => x + y) 1390) from s_iadd dL_law_1389), ⟨(show xSim l P xMT (xMuL nm) 1390 (i_sld P.2.2.2.2.1 1391) from s_sld dL_law_1390), ⟨(show xSim l P xMT (xMuL nm) 1391 (i_load x_isA 0 1392) from s_aload_n dL_law_1391 rfl), trivial⟩⟩⟩⟩⟩⟩⟩⟩⟩⟩⟩⟩
set_option maxRecDepth 100000 in
theorem o_k_L_law_87 {nm : String} {l : Launch} {P : xP} : xAll l P xMT (xMuL nm) 1392 (k_L_law_87 P.2.2.2.2.1) := ⟨(show xSim l P xMT (xMuL nm) 1392 (i_load x_isI 3 1393) from s_iload_n dL_law_1392 rfl), ⟨(show xSim l P xMT (xMuL nm) 1393 (i_push (.inl (.int (Int32.ofNat 3))) 1394) from s_iconst (Int32.ofNat 3) dL_law_1393 (by decide +kernel)), ⟨(show xSim l P xMT (xMuL nm) 1394 (i_bin32 (fun x y => x + y) 1395) from s_iadd dL_law_1394), ⟨(show xSim l P xMT (xMuL nm) 1395 (i_sld P.2.2.2.2.1 1396) from s_sld dL_law_1395), ⟨(show xSim l P xMT (xMuL nm) 1396 (i_call (some 11) 126 4 0 0 1399) from s_callV 11 (q_X11_worth) t_X11_worth m_X11_worth dL_law_1396 rfl (xvc_11) w_1005 w_1006 w_1007 w_1004 w_249 h_X11_worth ⟨(show q_X11_worth.2.2.2.2.frames + 1 ≤ room_1.frames by decide +kernel), (show 8 + (q_X11_worth.2.2.1 + 11) + q_X11_worth.2.2.2.2.locals ≤ room_1.locals by decide +kernel)⟩), ⟨(show xSim l P xMT (xMuL nm) 1399 (i_load x_isA 2 1400) from s_aload_n dL_law_1399 rfl), ⟨(show xSim l P xMT (xMuL nm) 1400 (i_load x_isA 0 1401) from s_aload_n dL_law_1400 rfl), ⟨(show xSim l P xMT (xMuL nm) 1401 (i_load x_isI 3 1402) from s_iload_n dL_law_1401 rfl), ⟨(show xSim l P xMT (xMuL nm) 1402 (i_push (.inl (.int (Int32.ofNat 1))) 1403) from s_iconst (Int32.ofNat 1) dL_law_1402 (by decide +kernel)), ⟨(show xSim l P xMT (xMuL nm) 1403 (i_bin32 (fun x y => x + y) 1404) from s_iadd dL_law_1403), ⟨(show xSim l P xMT (xMuL nm) 1404 (i_sld P.2.2.2.2.1 1405) from s_sld dL_law_1404), ⟨(show xSim l P xMT (xMuL nm) 1405 (i_load x_isA 0 1406) from s_aload_n dL_law_1405 rfl), ⟨(show xSim l P xMT (xMuL nm) 1406 (i_load x_isI 3 1407) from s_iload_n dL_law_1406 rfl), ⟨(show xSim l P xMT (xMuL nm) 1407 (i_push (.inl (.int (Int32.ofNat 2))) 1408) from s_iconst (Int32.ofNat 2) dL_law_1407 (by decide +kernel)), trivial⟩⟩⟩⟩⟩⟩⟩⟩⟩⟩⟩⟩⟩⟩
set_option maxRecDepth 100000 in
theorem o_k_L_law_88 {nm : String} {l : Launch} {P : xP} : xAll l P xMT (xMuL nm) 1408 (k_L_law_88 P.2.2.2.2.1) := ⟨(show xSim l P xMT (xMuL nm) 1408 (i_bin32 (fun x y => x + y) 1409) from s_iadd dL_law_1408), ⟨(show xSim l P xMT (xMuL nm) 1409 (i_sld P.2.2.2.2.1 1410) from s_sld dL_law_1409), ⟨(show xSim l P xMT (xMuL nm) 1410 (i_load x_isA 0 1411) from s_aload_n dL_law_1410 rfl), ⟨(show xSim l P xMT (xMuL nm) 1411 (i_load x_isI 3 1412) from s_iload_n dL_law_1411 rfl), ⟨(show xSim l P xMT (xMuL nm) 1412 (i_push (.inl (.int (Int32.ofNat 3))) 1413) from s_iconst (Int32.ofNat 3) dL_law_1412 (by decide +kernel)), ⟨(show xSim l P xMT (xMuL nm) 1413 (i_bin32 (fun x y => x + y) 1414) from s_iadd dL_law_1413), ⟨(show xSim l P xMT (xMuL nm) 1414 (i_sld P.2.2.2.2.1 1415) from s_sld dL_law_1414), ⟨(show xSim l P xMT (xMuL nm) 1415 (i_call (some 12) 216 4 0 0 1418) from s_callV 12 (q_X12_worth) t_X12_worth m_X12_worth dL_law_1415 rfl (xvc_12) w_1009 w_1010 w_1011 w_1008 w_490 h_X12_worth ⟨(show q_X12_worth.2.2.2.2.frames + 1 ≤ room_1.frames by decide +kernel), (show 8 + (q_X12_worth.2.2.1 + 11) + q_X12_worth.2.2.2.2.locals ≤ room_1.locals by decide +kernel)⟩), ⟨(show xSim l P xMT (xMuL nm) 1418 (i_icmp 2 1754 1421) from s_icmp_eq 1754 dL_law_1418 (by decide +kernel)), ⟨(show xSim l P xMT (xMuL nm) 1423 (i_load x_isA 1 1424) from s_aload_n dL_law_1423 rfl), trivial⟩⟩⟩⟩⟩⟩⟩⟩⟩⟩
set_option maxRecDepth 100000 in
theorem o_k_L_law_89 {nm : String} {l : Launch} {P : xP} : xAll l P xMT (xMuL nm) 1424 (k_L_law_89 P.2.2.2.2.1) := ⟨(show xSim l P xMT (xMuL nm) 1424 (i_load x_isA 0 1425) from s_aload_n dL_law_1424 rfl), ⟨(show xSim l P xMT (xMuL nm) 1425 (i_load x_isI 3 1426) from s_iload_n dL_law_1425 rfl), ⟨(show xSim l P xMT (xMuL nm) 1426 (i_push (.inl (.int (Int32.ofNat 1))) 1427) from s_iconst (Int32.ofNat 1) dL_law_1426 (by decide +kernel)), ⟨(show xSim l P xMT (xMuL nm) 1427 (i_bin32 (fun x y => x + y) 1428) from s_iadd dL_law_1427), ⟨(show xSim l P xMT (xMuL nm) 1428 (i_sld P.2.2.2.2.1 1429) from s_sld dL_law_1428), ⟨(show xSim l P xMT (xMuL nm) 1429 (i_load x_isA 0 1430) from s_aload_n dL_law_1429 rfl), ⟨(show xSim l P xMT (xMuL nm) 1430 (i_load x_isI 3 1431) from s_iload_n dL_law_1430 rfl), ⟨(show xSim l P xMT (xMuL nm) 1431 (i_push (.inl (.int (Int32.ofNat 2))) 1432) from s_iconst (Int32.ofNat 2) dL_law_1431 (by decide +kernel)), ⟨(show xSim l P xMT (xMuL nm) 1432 (i_bin32 (fun x y => x + y) 1433) from s_iadd dL_law_1432), ⟨(show xSim l P xMT (xMuL nm) 1433 (i_sld P.2.2.2.2.1 1434) from s_sld dL_law_1433), ⟨(show xSim l P xMT (xMuL nm) 1434 (i_call (some 11) 100 3 0 0 1437) from s_callV 11 (q_X11_mostWorth) t_X11_mostWorth m_X11_mostWorth dL_law_1434 rfl (xvc_11) w_1013 w_1014 w_1015 w_1012 w_249 h_X11_mostWorth ⟨(show q_X11_mostWorth.2.2.2.2.frames + 1 ≤ room_1.frames by decide +kernel), (show 8 + (q_X11_mostWorth.2.2.1 + 11) + q_X11_mostWorth.2.2.2.2.locals ≤ room_1.locals by decide +kernel)⟩), ⟨(show xSim l P xMT (xMuL nm) 1437 (i_load x_isA 2 1438) from s_aload_n dL_law_1437 rfl), ⟨(show xSim l P xMT (xMuL nm) 1438 (i_load x_isA 0 1439) from s_aload_n dL_law_1438 rfl), ⟨(show xSim l P xMT (xMuL nm) 1439 (i_load x_isI 3 1440) from s_iload_n dL_law_1439 rfl), trivial⟩⟩⟩⟩⟩⟩⟩⟩⟩⟩⟩⟩⟩⟩
set_option maxRecDepth 100000 in
theorem o_k_L_law_90 {nm : String} {l : Launch} {P : xP} : xAll l P xMT (xMuL nm) 1440 (k_L_law_90 P.2.2.2.2.1) := ⟨(show xSim l P xMT (xMuL nm) 1440 (i_push (.inl (.int (Int32.ofNat 1))) 1441) from s_iconst (Int32.ofNat 1) dL_law_1440 (by decide +kernel)), ⟨(show xSim l P xMT (xMuL nm) 1441 (i_bin32 (fun x y => x + y) 1442) from s_iadd dL_law_1441), ⟨(show xSim l P xMT (xMuL nm) 1442 (i_sld P.2.2.2.2.1 1443) from s_sld dL_law_1442), ⟨(show xSim l P xMT (xMuL nm) 1443 (i_load x_isA 0 1444) from s_aload_n dL_law_1443 rfl), ⟨(show xSim l P xMT (xMuL nm) 1444 (i_load x_isI 3 1445) from s_iload_n dL_law_1444 rfl), ⟨(show xSim l P xMT (xMuL nm) 1445 (i_push (.inl (.int (Int32.ofNat 2))) 1446) from s_iconst (Int32.ofNat 2) dL_law_1445 (by decide +kernel)), ⟨(show xSim l P xMT (xMuL nm) 1446 (i_bin32 (fun x y => x + y) 1447) from s_iadd dL_law_1446), ⟨(show xSim l P xMT (xMuL nm) 1447 (i_sld P.2.2.2.2.1 1448) from s_sld dL_law_1447), ⟨(show xSim l P xMT (xMuL nm) 1448 (i_call (some 12) 178 3 0 0 1451) from s_callV 12 (q_X12_mostWorth) t_X12_mostWorth m_X12_mostWorth dL_law_1448 rfl (xvc_12) w_1017 w_1018 w_1019 w_1016 w_490 h_X12_mostWorth ⟨(show q_X12_mostWorth.2.2.2.2.frames + 1 ≤ room_1.frames by decide +kernel), (show 8 + (q_X12_mostWorth.2.2.1 + 11) + q_X12_mostWorth.2.2.2.2.locals ≤ room_1.locals by decide +kernel)⟩), ⟨(show xSim l P xMT (xMuL nm) 1451 (i_icmp 2 1754 1454) from s_icmp_eq 1754 dL_law_1451 (by decide +kernel)), trivial⟩⟩⟩⟩⟩⟩⟩⟩⟩⟩
set_option maxRecDepth 100000 in
theorem o_k_L_law_91 {nm : String} {l : Launch} {P : xP} : xAll l P xMT (xMuL nm) 1456 (k_L_law_91 P.2.2.2.2.1) := ⟨(show xSim l P xMT (xMuL nm) 1456 (i_load x_isA 1 1457) from s_aload_n dL_law_1456 rfl), ⟨(show xSim l P xMT (xMuL nm) 1457 (i_load x_isA 0 1458) from s_aload_n dL_law_1457 rfl), ⟨(show xSim l P xMT (xMuL nm) 1458 (i_load x_isI 3 1459) from s_iload_n dL_law_1458 rfl), ⟨(show xSim l P xMT (xMuL nm) 1459 (i_push (.inl (.int (Int32.ofNat 1))) 1460) from s_iconst (Int32.ofNat 1) dL_law_1459 (by decide +kernel)), ⟨(show xSim l P xMT (xMuL nm) 1460 (i_bin32 (fun x y => x + y) 1461) from s_iadd dL_law_1460), ⟨(show xSim l P xMT (xMuL nm) 1461 (i_sld P.2.2.2.2.1 1462) from s_sld dL_law_1461), ⟨(show xSim l P xMT (xMuL nm) 1462 (i_load x_isA 0 1463) from s_aload_n dL_law_1462 rfl), ⟨(show xSim l P xMT (xMuL nm) 1463 (i_load x_isI 3 1464) from s_iload_n dL_law_1463 rfl), ⟨(show xSim l P xMT (xMuL nm) 1464 (i_push (.inl (.int (Int32.ofNat 2))) 1465) from s_iconst (Int32.ofNat 2) dL_law_1464 (by decide +kernel)), ⟨(show xSim l P xMT (xMuL nm) 1465 (i_bin32 (fun x y => x + y) 1466) from s_iadd dL_law_1465), ⟨(show xSim l P xMT (xMuL nm) 1466 (i_sld P.2.2.2.2.1 1467) from s_sld dL_law_1466), ⟨(show xSim l P xMT (xMuL nm) 1467 (i_call (some 11) 119 3 0 0 1470) from s_callV 11 (q_X11_told) t_X11_told m_X11_told dL_law_1467 rfl (xvc_11) w_1021 w_1022 w_1023 w_1020 w_249 h_X11_told ⟨(show q_X11_told.2.2.2.2.frames + 1 ≤ room_1.frames by decide +kernel), (show 8 + (q_X11_told.2.2.1 + 11) + q_X11_told.2.2.2.2.locals ≤ room_1.locals by decide +kernel)⟩), ⟨(show xSim l P xMT (xMuL nm) 1470 (i_load x_isA 2 1471) from s_aload_n dL_law_1470 rfl), ⟨(show xSim l P xMT (xMuL nm) 1471 (i_load x_isA 0 1472) from s_aload_n dL_law_1471 rfl), trivial⟩⟩⟩⟩⟩⟩⟩⟩⟩⟩⟩⟩⟩⟩
set_option maxRecDepth 100000 in
theorem o_k_L_law_92 {nm : String} {l : Launch} {P : xP} : xAll l P xMT (xMuL nm) 1472 (k_L_law_92 P.2.2.2.2.1) := ⟨(show xSim l P xMT (xMuL nm) 1472 (i_load x_isI 3 1473) from s_iload_n dL_law_1472 rfl), ⟨(show xSim l P xMT (xMuL nm) 1473 (i_push (.inl (.int (Int32.ofNat 1))) 1474) from s_iconst (Int32.ofNat 1) dL_law_1473 (by decide +kernel)), ⟨(show xSim l P xMT (xMuL nm) 1474 (i_bin32 (fun x y => x + y) 1475) from s_iadd dL_law_1474), ⟨(show xSim l P xMT (xMuL nm) 1475 (i_sld P.2.2.2.2.1 1476) from s_sld dL_law_1475), ⟨(show xSim l P xMT (xMuL nm) 1476 (i_load x_isA 0 1477) from s_aload_n dL_law_1476 rfl), ⟨(show xSim l P xMT (xMuL nm) 1477 (i_load x_isI 3 1478) from s_iload_n dL_law_1477 rfl), ⟨(show xSim l P xMT (xMuL nm) 1478 (i_push (.inl (.int (Int32.ofNat 2))) 1479) from s_iconst (Int32.ofNat 2) dL_law_1478 (by decide +kernel)), ⟨(show xSim l P xMT (xMuL nm) 1479 (i_bin32 (fun x y => x + y) 1480) from s_iadd dL_law_1479), ⟨(show xSim l P xMT (xMuL nm) 1480 (i_sld P.2.2.2.2.1 1481) from s_sld dL_law_1480), ⟨(show xSim l P xMT (xMuL nm) 1481 (i_call (some 12) 207 3 0 0 1484) from s_callV 12 (q_X12_told) t_X12_told m_X12_told dL_law_1481 rfl (xvc_12) w_1025 w_1026 w_1027 w_1024 w_490 h_X12_told ⟨(show q_X12_told.2.2.2.2.frames + 1 ≤ room_1.frames by decide +kernel), (show 8 + (q_X12_told.2.2.1 + 11) + q_X12_told.2.2.2.2.locals ≤ room_1.locals by decide +kernel)⟩), ⟨(show xSim l P xMT (xMuL nm) 1484 (i_lcmp 1485) from s_lcmp dL_law_1484), ⟨(show xSim l P xMT (xMuL nm) 1485 (i_if 2 1754 1488) from s_if_eq 1754 dL_law_1485 (by decide +kernel)), trivial⟩⟩⟩⟩⟩⟩⟩⟩⟩⟩⟩⟩
set_option maxRecDepth 100000 in
theorem o_k_L_law_93 {nm : String} {l : Launch} {P : xP} : xAll l P xMT (xMuL nm) 1488 (k_L_law_93 P.2.2.2.2.1) := ⟨(show xSim l P xMT (xMuL nm) 1490 (i_load x_isA 1 1491) from s_aload_n dL_law_1490 rfl), ⟨(show xSim l P xMT (xMuL nm) 1491 (i_load x_isA 0 1492) from s_aload_n dL_law_1491 rfl), ⟨(show xSim l P xMT (xMuL nm) 1492 (i_load x_isI 3 1493) from s_iload_n dL_law_1492 rfl), ⟨(show xSim l P xMT (xMuL nm) 1493 (i_push (.inl (.int (Int32.ofNat 1))) 1494) from s_iconst (Int32.ofNat 1) dL_law_1493 (by decide +kernel)), ⟨(show xSim l P xMT (xMuL nm) 1494 (i_bin32 (fun x y => x + y) 1495) from s_iadd dL_law_1494), ⟨(show xSim l P xMT (xMuL nm) 1495 (i_sld P.2.2.2.2.1 1496) from s_sld dL_law_1495), ⟨(show xSim l P xMT (xMuL nm) 1496 (i_load x_isA 0 1497) from s_aload_n dL_law_1496 rfl), ⟨(show xSim l P xMT (xMuL nm) 1497 (i_load x_isI 3 1498) from s_iload_n dL_law_1497 rfl), ⟨(show xSim l P xMT (xMuL nm) 1498 (i_push (.inl (.int (Int32.ofNat 2))) 1499) from s_iconst (Int32.ofNat 2) dL_law_1498 (by decide +kernel)), ⟨(show xSim l P xMT (xMuL nm) 1499 (i_bin32 (fun x y => x + y) 1500) from s_iadd dL_law_1499), ⟨(show xSim l P xMT (xMuL nm) 1500 (i_sld P.2.2.2.2.1 1501) from s_sld dL_law_1500), ⟨(show xSim l P xMT (xMuL nm) 1501 (i_load x_isA 0 1502) from s_aload_n dL_law_1501 rfl), ⟨(show xSim l P xMT (xMuL nm) 1502 (i_load x_isI 3 1503) from s_iload_n dL_law_1502 rfl), ⟨(show xSim l P xMT (xMuL nm) 1503 (i_push (.inl (.int (Int32.ofNat 3))) 1504) from s_iconst (Int32.ofNat 3) dL_law_1503 (by decide +kernel)), trivial⟩⟩⟩⟩⟩⟩⟩⟩⟩⟩⟩⟩⟩⟩
set_option maxRecDepth 100000 in
theorem o_k_L_law_94 {nm : String} {l : Launch} {P : xP} : xAll l P xMT (xMuL nm) 1504 (k_L_law_94 P.2.2.2.2.1) := ⟨(show xSim l P xMT (xMuL nm) 1504 (i_bin32 (fun x y => x + y) 1505) from s_iadd dL_law_1504), ⟨(show xSim l P xMT (xMuL nm) 1505 (i_sld P.2.2.2.2.1 1506) from s_sld dL_law_1505), ⟨(show xSim l P xMT (xMuL nm) 1506 (i_call (some 11) 89 4 0 0 1509) from s_callV 11 (q_X11_halves) t_X11_halves m_X11_halves dL_law_1506 rfl (xvc_11) w_1029 w_1030 w_1031 w_1028 w_249 h_X11_halves ⟨(show q_X11_halves.2.2.2.2.frames + 1 ≤ room_1.frames by decide +kernel), (show 8 + (q_X11_halves.2.2.1 + 11) + q_X11_halves.2.2.2.2.locals ≤ room_1.locals by decide +kernel)⟩), ⟨(show xSim l P xMT (xMuL nm) 1509 (i_load x_isA 2 1510) from s_aload_n dL_law_1509 rfl), ⟨(show xSim l P xMT (xMuL nm) 1510 (i_load x_isA 0 1511) from s_aload_n dL_law_1510 rfl), ⟨(show xSim l P xMT (xMuL nm) 1511 (i_load x_isI 3 1512) from s_iload_n dL_law_1511 rfl), ⟨(show xSim l P xMT (xMuL nm) 1512 (i_push (.inl (.int (Int32.ofNat 1))) 1513) from s_iconst (Int32.ofNat 1) dL_law_1512 (by decide +kernel)), ⟨(show xSim l P xMT (xMuL nm) 1513 (i_bin32 (fun x y => x + y) 1514) from s_iadd dL_law_1513), ⟨(show xSim l P xMT (xMuL nm) 1514 (i_sld P.2.2.2.2.1 1515) from s_sld dL_law_1514), ⟨(show xSim l P xMT (xMuL nm) 1515 (i_load x_isA 0 1516) from s_aload_n dL_law_1515 rfl), ⟨(show xSim l P xMT (xMuL nm) 1516 (i_load x_isI 3 1517) from s_iload_n dL_law_1516 rfl), ⟨(show xSim l P xMT (xMuL nm) 1517 (i_push (.inl (.int (Int32.ofNat 2))) 1518) from s_iconst (Int32.ofNat 2) dL_law_1517 (by decide +kernel)), ⟨(show xSim l P xMT (xMuL nm) 1518 (i_bin32 (fun x y => x + y) 1519) from s_iadd dL_law_1518), ⟨(show xSim l P xMT (xMuL nm) 1519 (i_sld P.2.2.2.2.1 1520) from s_sld dL_law_1519), trivial⟩⟩⟩⟩⟩⟩⟩⟩⟩⟩⟩⟩⟩⟩
set_option maxRecDepth 100000 in
theorem o_k_L_law_95 {nm : String} {l : Launch} {P : xP} : xAll l P xMT (xMuL nm) 1520 (k_L_law_95 P.2.2.2.2.1) := ⟨(show xSim l P xMT (xMuL nm) 1520 (i_load x_isA 0 1521) from s_aload_n dL_law_1520 rfl), ⟨(show xSim l P xMT (xMuL nm) 1521 (i_load x_isI 3 1522) from s_iload_n dL_law_1521 rfl), ⟨(show xSim l P xMT (xMuL nm) 1522 (i_push (.inl (.int (Int32.ofNat 3))) 1523) from s_iconst (Int32.ofNat 3) dL_law_1522 (by decide +kernel)), ⟨(show xSim l P xMT (xMuL nm) 1523 (i_bin32 (fun x y => x + y) 1524) from s_iadd dL_law_1523), ⟨(show xSim l P xMT (xMuL nm) 1524 (i_sld P.2.2.2.2.1 1525) from s_sld dL_law_1524), ⟨(show xSim l P xMT (xMuL nm) 1525 (i_call (some 12) 153 4 0 0 1528) from s_callV 12 (q_X12_halves) t_X12_halves m_X12_halves dL_law_1525 rfl (xvc_12) w_1033 w_1034 w_1035 w_1032 w_490 h_X12_halves ⟨(show q_X12_halves.2.2.2.2.frames + 1 ≤ room_1.frames by decide +kernel), (show 8 + (q_X12_halves.2.2.1 + 11) + q_X12_halves.2.2.2.2.locals ≤ room_1.locals by decide +kernel)⟩), ⟨(show xSim l P xMT (xMuL nm) 1528 (i_icmp 2 1754 1531) from s_icmp_eq 1754 dL_law_1528 (by decide +kernel)), ⟨(show xSim l P xMT (xMuL nm) 1533 (i_load x_isA 1 1534) from s_aload_n dL_law_1533 rfl), ⟨(show xSim l P xMT (xMuL nm) 1534 (i_load x_isA 0 1535) from s_aload_n dL_law_1534 rfl), ⟨(show xSim l P xMT (xMuL nm) 1535 (i_load x_isI 3 1536) from s_iload_n dL_law_1535 rfl), trivial⟩⟩⟩⟩⟩⟩⟩⟩⟩⟩
set_option maxRecDepth 100000 in
theorem o_k_L_law_96 {nm : String} {l : Launch} {P : xP} : xAll l P xMT (xMuL nm) 1536 (k_L_law_96 P.2.2.2.2.1) := ⟨(show xSim l P xMT (xMuL nm) 1536 (i_push (.inl (.int (Int32.ofNat 1))) 1537) from s_iconst (Int32.ofNat 1) dL_law_1536 (by decide +kernel)), ⟨(show xSim l P xMT (xMuL nm) 1537 (i_bin32 (fun x y => x + y) 1538) from s_iadd dL_law_1537), ⟨(show xSim l P xMT (xMuL nm) 1538 (i_sld P.2.2.2.2.1 1539) from s_sld dL_law_1538), ⟨(show xSim l P xMT (xMuL nm) 1539 (i_load x_isA 0 1540) from s_aload_n dL_law_1539 rfl), ⟨(show xSim l P xMT (xMuL nm) 1540 (i_load x_isI 3 1541) from s_iload_n dL_law_1540 rfl), ⟨(show xSim l P xMT (xMuL nm) 1541 (i_push (.inl (.int (Int32.ofNat 2))) 1542) from s_iconst (Int32.ofNat 2) dL_law_1541 (by decide +kernel)), ⟨(show xSim l P xMT (xMuL nm) 1542 (i_bin32 (fun x y => x + y) 1543) from s_iadd dL_law_1542), ⟨(show xSim l P xMT (xMuL nm) 1543 (i_sld P.2.2.2.2.1 1544) from s_sld dL_law_1543), ⟨(show xSim l P xMT (xMuL nm) 1544 (i_load x_isA 0 1545) from s_aload_n dL_law_1544 rfl), ⟨(show xSim l P xMT (xMuL nm) 1545 (i_load x_isI 3 1546) from s_iload_n dL_law_1545 rfl), ⟨(show xSim l P xMT (xMuL nm) 1546 (i_push (.inl (.int (Int32.ofNat 3))) 1547) from s_iconst (Int32.ofNat 3) dL_law_1546 (by decide +kernel)), ⟨(show xSim l P xMT (xMuL nm) 1547 (i_bin32 (fun x y => x + y) 1548) from s_iadd dL_law_1547), ⟨(show xSim l P xMT (xMuL nm) 1548 (i_sld P.2.2.2.2.1 1549) from s_sld dL_law_1548), ⟨(show xSim l P xMT (xMuL nm) 1549 (i_load x_isA 0 1550) from s_aload_n dL_law_1549 rfl), ⟨(show xSim l P xMT (xMuL nm) 1550 (i_load x_isI 3 1551) from s_iload_n dL_law_1550 rfl), ⟨(show xSim l P xMT (xMuL nm) 1551 (i_push (.inl (.int (Int32.ofNat 4))) 1552) from s_iconst (Int32.ofNat 4) dL_law_1551 (by decide +kernel)), trivial⟩⟩⟩⟩⟩⟩⟩⟩⟩⟩⟩⟩⟩⟩⟩⟩
set_option maxRecDepth 100000 in
theorem o_k_L_law_97 {nm : String} {l : Launch} {P : xP} : xAll l P xMT (xMuL nm) 1552 (k_L_law_97 P.2.2.2.2.1) := ⟨(show xSim l P xMT (xMuL nm) 1552 (i_bin32 (fun x y => x + y) 1553) from s_iadd dL_law_1552), ⟨(show xSim l P xMT (xMuL nm) 1553 (i_sld P.2.2.2.2.1 1554) from s_sld dL_law_1553), ⟨(show xSim l P xMT (xMuL nm) 1554 (i_load x_isA 0 1555) from s_aload_n dL_law_1554 rfl), ⟨(show xSim l P xMT (xMuL nm) 1555 (i_load x_isI 3 1556) from s_iload_n dL_law_1555 rfl), ⟨(show xSim l P xMT (xMuL nm) 1556 (i_push (.inl (.int (Int32.ofNat 5))) 1557) from s_iconst (Int32.ofNat 5) dL_law_1556 (by decide +kernel)), ⟨(show xSim l P xMT (xMuL nm) 1557 (i_bin32 (fun x y => x + y) 1558) from s_iadd dL_law_1557), ⟨(show xSim l P xMT (xMuL nm) 1558 (i_sld P.2.2.2.2.1 1559) from s_sld dL_law_1558), ⟨(show xSim l P xMT (xMuL nm) 1559 (i_call (some 11) 102 6 0 0 1562) from s_callV 11 (q_X11_odds) t_X11_odds m_X11_odds dL_law_1559 rfl (xvc_11) w_1037 w_1038 w_1039 w_1036 w_249 h_X11_odds ⟨(show q_X11_odds.2.2.2.2.frames + 1 ≤ room_1.frames by decide +kernel), (show 8 + (q_X11_odds.2.2.1 + 11) + q_X11_odds.2.2.2.2.locals ≤ room_1.locals by decide +kernel)⟩), ⟨(show xSim l P xMT (xMuL nm) 1562 (i_load x_isA 2 1563) from s_aload_n dL_law_1562 rfl), ⟨(show xSim l P xMT (xMuL nm) 1563 (i_load x_isA 0 1564) from s_aload_n dL_law_1563 rfl), ⟨(show xSim l P xMT (xMuL nm) 1564 (i_load x_isI 3 1565) from s_iload_n dL_law_1564 rfl), ⟨(show xSim l P xMT (xMuL nm) 1565 (i_push (.inl (.int (Int32.ofNat 1))) 1566) from s_iconst (Int32.ofNat 1) dL_law_1565 (by decide +kernel)), ⟨(show xSim l P xMT (xMuL nm) 1566 (i_bin32 (fun x y => x + y) 1567) from s_iadd dL_law_1566), ⟨(show xSim l P xMT (xMuL nm) 1567 (i_sld P.2.2.2.2.1 1568) from s_sld dL_law_1567), trivial⟩⟩⟩⟩⟩⟩⟩⟩⟩⟩⟩⟩⟩⟩
set_option maxRecDepth 100000 in
theorem o_k_L_law_98 {nm : String} {l : Launch} {P : xP} : xAll l P xMT (xMuL nm) 1568 (k_L_law_98 P.2.2.2.2.1) := ⟨(show xSim l P xMT (xMuL nm) 1568 (i_load x_isA 0 1569) from s_aload_n dL_law_1568 rfl), ⟨(show xSim l P xMT (xMuL nm) 1569 (i_load x_isI 3 1570) from s_iload_n dL_law_1569 rfl), ⟨(show xSim l P xMT (xMuL nm) 1570 (i_push (.inl (.int (Int32.ofNat 2))) 1571) from s_iconst (Int32.ofNat 2) dL_law_1570 (by decide +kernel)), ⟨(show xSim l P xMT (xMuL nm) 1571 (i_bin32 (fun x y => x + y) 1572) from s_iadd dL_law_1571), ⟨(show xSim l P xMT (xMuL nm) 1572 (i_sld P.2.2.2.2.1 1573) from s_sld dL_law_1572), ⟨(show xSim l P xMT (xMuL nm) 1573 (i_load x_isA 0 1574) from s_aload_n dL_law_1573 rfl), ⟨(show xSim l P xMT (xMuL nm) 1574 (i_load x_isI 3 1575) from s_iload_n dL_law_1574 rfl), ⟨(show xSim l P xMT (xMuL nm) 1575 (i_push (.inl (.int (Int32.ofNat 3))) 1576) from s_iconst (Int32.ofNat 3) dL_law_1575 (by decide +kernel)), ⟨(show xSim l P xMT (xMuL nm) 1576 (i_bin32 (fun x y => x + y) 1577) from s_iadd dL_law_1576), ⟨(show xSim l P xMT (xMuL nm) 1577 (i_sld P.2.2.2.2.1 1578) from s_sld dL_law_1577), ⟨(show xSim l P xMT (xMuL nm) 1578 (i_load x_isA 0 1579) from s_aload_n dL_law_1578 rfl), ⟨(show xSim l P xMT (xMuL nm) 1579 (i_load x_isI 3 1580) from s_iload_n dL_law_1579 rfl), ⟨(show xSim l P xMT (xMuL nm) 1580 (i_push (.inl (.int (Int32.ofNat 4))) 1581) from s_iconst (Int32.ofNat 4) dL_law_1580 (by decide +kernel)), ⟨(show xSim l P xMT (xMuL nm) 1581 (i_bin32 (fun x y => x + y) 1582) from s_iadd dL_law_1581), ⟨(show xSim l P xMT (xMuL nm) 1582 (i_sld P.2.2.2.2.1 1583) from s_sld dL_law_1582), ⟨(show xSim l P xMT (xMuL nm) 1583 (i_load x_isA 0 1584) from s_aload_n dL_law_1583 rfl), trivial⟩⟩⟩⟩⟩⟩⟩⟩⟩⟩⟩⟩⟩⟩⟩⟩
set_option maxRecDepth 100000 in
theorem o_k_L_law_99 {nm : String} {l : Launch} {P : xP} : xAll l P xMT (xMuL nm) 1584 (k_L_law_99 P.2.2.2.2.1) := ⟨(show xSim l P xMT (xMuL nm) 1584 (i_load x_isI 3 1585) from s_iload_n dL_law_1584 rfl), ⟨(show xSim l P xMT (xMuL nm) 1585 (i_push (.inl (.int (Int32.ofNat 5))) 1586) from s_iconst (Int32.ofNat 5) dL_law_1585 (by decide +kernel)), ⟨(show xSim l P xMT (xMuL nm) 1586 (i_bin32 (fun x y => x + y) 1587) from s_iadd dL_law_1586), ⟨(show xSim l P xMT (xMuL nm) 1587 (i_sld P.2.2.2.2.1 1588) from s_sld dL_law_1587), ⟨(show xSim l P xMT (xMuL nm) 1588 (i_call (some 12) 184 6 0 0 1591) from s_callV 12 (q_X12_odds) t_X12_odds m_X12_odds dL_law_1588 rfl (xvc_12) w_1041 w_1042 w_1043 w_1040 w_490 h_X12_odds ⟨(show q_X12_odds.2.2.2.2.frames + 1 ≤ room_1.frames by decide +kernel), (show 8 + (q_X12_odds.2.2.1 + 11) + q_X12_odds.2.2.2.2.locals ≤ room_1.locals by decide +kernel)⟩), ⟨(show xSim l P xMT (xMuL nm) 1591 (i_icmp 2 1754 1594) from s_icmp_eq 1754 dL_law_1591 (by decide +kernel)), ⟨(show xSim l P xMT (xMuL nm) 1596 (i_load x_isA 1 1597) from s_aload_n dL_law_1596 rfl), ⟨(show xSim l P xMT (xMuL nm) 1597 (i_load x_isA 0 1598) from s_aload_n dL_law_1597 rfl), ⟨(show xSim l P xMT (xMuL nm) 1598 (i_load x_isI 3 1599) from s_iload_n dL_law_1598 rfl), ⟨(show xSim l P xMT (xMuL nm) 1599 (i_push (.inl (.int (Int32.ofNat 1))) 1600) from s_iconst (Int32.ofNat 1) dL_law_1599 (by decide +kernel)), trivial⟩⟩⟩⟩⟩⟩⟩⟩⟩⟩
set_option maxRecDepth 100000 in
theorem o_k_L_law_100 {nm : String} {l : Launch} {P : xP} : xAll l P xMT (xMuL nm) 1600 (k_L_law_100 P.2.2.2.2.1) := ⟨(show xSim l P xMT (xMuL nm) 1600 (i_bin32 (fun x y => x + y) 1601) from s_iadd dL_law_1600), ⟨(show xSim l P xMT (xMuL nm) 1601 (i_sld P.2.2.2.2.1 1602) from s_sld dL_law_1601), ⟨(show xSim l P xMT (xMuL nm) 1602 (i_load x_isA 0 1603) from s_aload_n dL_law_1602 rfl), ⟨(show xSim l P xMT (xMuL nm) 1603 (i_load x_isI 3 1604) from s_iload_n dL_law_1603 rfl), ⟨(show xSim l P xMT (xMuL nm) 1604 (i_push (.inl (.int (Int32.ofNat 2))) 1605) from s_iconst (Int32.ofNat 2) dL_law_1604 (by decide +kernel)), ⟨(show xSim l P xMT (xMuL nm) 1605 (i_bin32 (fun x y => x + y) 1606) from s_iadd dL_law_1605), ⟨(show xSim l P xMT (xMuL nm) 1606 (i_sld P.2.2.2.2.1 1607) from s_sld dL_law_1606), ⟨(show xSim l P xMT (xMuL nm) 1607 (i_load x_isA 0 1608) from s_aload_n dL_law_1607 rfl), ⟨(show xSim l P xMT (xMuL nm) 1608 (i_load x_isI 3 1609) from s_iload_n dL_law_1608 rfl), ⟨(show xSim l P xMT (xMuL nm) 1609 (i_push (.inl (.int (Int32.ofNat 3))) 1610) from s_iconst (Int32.ofNat 3) dL_law_1609 (by decide +kernel)), ⟨(show xSim l P xMT (xMuL nm) 1610 (i_bin32 (fun x y => x + y) 1611) from s_iadd dL_law_1610), ⟨(show xSim l P xMT (xMuL nm) 1611 (i_sld P.2.2.2.2.1 1612) from s_sld dL_law_1611), ⟨(show xSim l P xMT (xMuL nm) 1612 (i_call (some 11) 99 4 0 0 1615) from s_callV 11 (q_X11_mean) t_X11_mean m_X11_mean dL_law_1612 rfl (xvc_11) w_1045 w_1046 w_1047 w_1044 w_249 h_X11_mean ⟨(show q_X11_mean.2.2.2.2.frames + 1 ≤ room_1.frames by decide +kernel), (show 8 + (q_X11_mean.2.2.1 + 11) + q_X11_mean.2.2.2.2.locals ≤ room_1.locals by decide +kernel)⟩), ⟨(show xSim l P xMT (xMuL nm) 1615 (i_load x_isA 2 1616) from s_aload_n dL_law_1615 rfl), trivial⟩⟩⟩⟩⟩⟩⟩⟩⟩⟩⟩⟩⟩⟩
set_option maxRecDepth 100000 in
theorem o_k_L_law_101 {nm : String} {l : Launch} {P : xP} : xAll l P xMT (xMuL nm) 1616 (k_L_law_101 P.2.2.2.2.1) := ⟨(show xSim l P xMT (xMuL nm) 1616 (i_load x_isA 0 1617) from s_aload_n dL_law_1616 rfl), ⟨(show xSim l P xMT (xMuL nm) 1617 (i_load x_isI 3 1618) from s_iload_n dL_law_1617 rfl), ⟨(show xSim l P xMT (xMuL nm) 1618 (i_push (.inl (.int (Int32.ofNat 1))) 1619) from s_iconst (Int32.ofNat 1) dL_law_1618 (by decide +kernel)), ⟨(show xSim l P xMT (xMuL nm) 1619 (i_bin32 (fun x y => x + y) 1620) from s_iadd dL_law_1619), ⟨(show xSim l P xMT (xMuL nm) 1620 (i_sld P.2.2.2.2.1 1621) from s_sld dL_law_1620), ⟨(show xSim l P xMT (xMuL nm) 1621 (i_load x_isA 0 1622) from s_aload_n dL_law_1621 rfl), ⟨(show xSim l P xMT (xMuL nm) 1622 (i_load x_isI 3 1623) from s_iload_n dL_law_1622 rfl), ⟨(show xSim l P xMT (xMuL nm) 1623 (i_push (.inl (.int (Int32.ofNat 2))) 1624) from s_iconst (Int32.ofNat 2) dL_law_1623 (by decide +kernel)), ⟨(show xSim l P xMT (xMuL nm) 1624 (i_bin32 (fun x y => x + y) 1625) from s_iadd dL_law_1624), ⟨(show xSim l P xMT (xMuL nm) 1625 (i_sld P.2.2.2.2.1 1626) from s_sld dL_law_1625), ⟨(show xSim l P xMT (xMuL nm) 1626 (i_load x_isA 0 1627) from s_aload_n dL_law_1626 rfl), ⟨(show xSim l P xMT (xMuL nm) 1627 (i_load x_isI 3 1628) from s_iload_n dL_law_1627 rfl), ⟨(show xSim l P xMT (xMuL nm) 1628 (i_push (.inl (.int (Int32.ofNat 3))) 1629) from s_iconst (Int32.ofNat 3) dL_law_1628 (by decide +kernel)), ⟨(show xSim l P xMT (xMuL nm) 1629 (i_bin32 (fun x y => x + y) 1630) from s_iadd dL_law_1629), ⟨(show xSim l P xMT (xMuL nm) 1630 (i_sld P.2.2.2.2.1 1631) from s_sld dL_law_1630), ⟨(show xSim l P xMT (xMuL nm) 1631 (i_call (some 12) 177 4 0 0 1634) from s_callV 12 (q_X12_mean) t_X12_mean m_X12_mean dL_law_1631 rfl (xvc_12) w_1049 w_1050 w_1051 w_1048 w_490 h_X12_mean ⟨(show q_X12_mean.2.2.2.2.frames + 1 ≤ room_1.frames by decide +kernel), (show 8 + (q_X12_mean.2.2.1 + 11) + q_X12_mean.2.2.2.2.locals ≤ room_1.locals by decide +kernel)⟩), trivial⟩⟩⟩⟩⟩⟩⟩⟩⟩⟩⟩⟩⟩⟩⟩⟩
set_option maxRecDepth 100000 in
theorem o_k_L_law_102 {nm : String} {l : Launch} {P : xP} : xAll l P xMT (xMuL nm) 1632 (k_L_law_102 P.2.2.2.2.1) := ⟨(show xSim l P xMT (xMuL nm) 1634 (i_icmp 2 1754 1637) from s_icmp_eq 1754 dL_law_1634 (by decide +kernel)), ⟨(show xSim l P xMT (xMuL nm) 1639 (i_load x_isA 1 1640) from s_aload_n dL_law_1639 rfl), ⟨(show xSim l P xMT (xMuL nm) 1640 (i_load x_isA 0 1641) from s_aload_n dL_law_1640 rfl), ⟨(show xSim l P xMT (xMuL nm) 1641 (i_load x_isI 3 1642) from s_iload_n dL_law_1641 rfl), ⟨(show xSim l P xMT (xMuL nm) 1642 (i_push (.inl (.int (Int32.ofNat 1))) 1643) from s_iconst (Int32.ofNat 1) dL_law_1642 (by decide +kernel)), ⟨(show xSim l P xMT (xMuL nm) 1643 (i_bin32 (fun x y => x + y) 1644) from s_iadd dL_law_1643), ⟨(show xSim l P xMT (xMuL nm) 1644 (i_sld P.2.2.2.2.1 1645) from s_sld dL_law_1644), ⟨(show xSim l P xMT (xMuL nm) 1645 (i_call (some 11) 111 2 0 0 1648) from s_callV 11 (q_X11_run) t_X11_run m_X11_run dL_law_1645 rfl (xvc_11) w_1053 w_1054 w_1055 w_1052 w_249 h_X11_run ⟨(show q_X11_run.2.2.2.2.frames + 1 ≤ room_1.frames by decide +kernel), (show 8 + (q_X11_run.2.2.1 + 11) + q_X11_run.2.2.2.2.locals ≤ room_1.locals by decide +kernel)⟩), trivial⟩⟩⟩⟩⟩⟩⟩⟩
set_option maxRecDepth 100000 in
theorem o_k_L_law_103 {nm : String} {l : Launch} {P : xP} : xAll l P xMT (xMuL nm) 1648 (k_L_law_103 P.2.2.2.2.1) := ⟨(show xSim l P xMT (xMuL nm) 1648 (i_load x_isA 2 1649) from s_aload_n dL_law_1648 rfl), ⟨(show xSim l P xMT (xMuL nm) 1649 (i_load x_isA 0 1650) from s_aload_n dL_law_1649 rfl), ⟨(show xSim l P xMT (xMuL nm) 1650 (i_load x_isI 3 1651) from s_iload_n dL_law_1650 rfl), ⟨(show xSim l P xMT (xMuL nm) 1651 (i_push (.inl (.int (Int32.ofNat 1))) 1652) from s_iconst (Int32.ofNat 1) dL_law_1651 (by decide +kernel)), ⟨(show xSim l P xMT (xMuL nm) 1652 (i_bin32 (fun x y => x + y) 1653) from s_iadd dL_law_1652), ⟨(show xSim l P xMT (xMuL nm) 1653 (i_sld P.2.2.2.2.1 1654) from s_sld dL_law_1653), ⟨(show xSim l P xMT (xMuL nm) 1654 (i_call (some 12) 194 2 0 0 1657) from s_callV 12 (q_X12_run) t_X12_run m_X12_run dL_law_1654 rfl (xvc_12) w_1057 w_1058 w_1059 w_1056 w_490 h_X12_run ⟨(show q_X12_run.2.2.2.2.frames + 1 ≤ room_1.frames by decide +kernel), (show 8 + (q_X12_run.2.2.1 + 11) + q_X12_run.2.2.2.2.locals ≤ room_1.locals by decide +kernel)⟩), ⟨(show xSim l P xMT (xMuL nm) 1657 (i_icmp 2 1754 1660) from s_icmp_eq 1754 dL_law_1657 (by decide +kernel)), ⟨(show xSim l P xMT (xMuL nm) 1662 (i_load x_isA 1 1663) from s_aload_n dL_law_1662 rfl), ⟨(show xSim l P xMT (xMuL nm) 1663 (i_load x_isA 0 1664) from s_aload_n dL_law_1663 rfl), trivial⟩⟩⟩⟩⟩⟩⟩⟩⟩⟩
set_option maxRecDepth 100000 in
theorem o_k_L_law_104 {nm : String} {l : Launch} {P : xP} : xAll l P xMT (xMuL nm) 1664 (k_L_law_104 P.2.2.2.2.1) := ⟨(show xSim l P xMT (xMuL nm) 1664 (i_load x_isI 3 1665) from s_iload_n dL_law_1664 rfl), ⟨(show xSim l P xMT (xMuL nm) 1665 (i_push (.inl (.int (Int32.ofNat 1))) 1666) from s_iconst (Int32.ofNat 1) dL_law_1665 (by decide +kernel)), ⟨(show xSim l P xMT (xMuL nm) 1666 (i_bin32 (fun x y => x + y) 1667) from s_iadd dL_law_1666), ⟨(show xSim l P xMT (xMuL nm) 1667 (i_sld P.2.2.2.2.1 1668) from s_sld dL_law_1667), ⟨(show xSim l P xMT (xMuL nm) 1668 (i_call (some 11) 106 2 0 0 1671) from s_callV 11 (q_X11_ran) t_X11_ran m_X11_ran dL_law_1668 rfl (xvc_11) w_1061 w_1062 w_1063 w_1060 w_249 h_X11_ran ⟨(show q_X11_ran.2.2.2.2.frames + 1 ≤ room_1.frames by decide +kernel), (show 8 + (q_X11_ran.2.2.1 + 11) + q_X11_ran.2.2.2.2.locals ≤ room_1.locals by decide +kernel)⟩), ⟨(show xSim l P xMT (xMuL nm) 1671 (i_load x_isA 2 1672) from s_aload_n dL_law_1671 rfl), ⟨(show xSim l P xMT (xMuL nm) 1672 (i_load x_isA 0 1673) from s_aload_n dL_law_1672 rfl), ⟨(show xSim l P xMT (xMuL nm) 1673 (i_load x_isI 3 1674) from s_iload_n dL_law_1673 rfl), ⟨(show xSim l P xMT (xMuL nm) 1674 (i_push (.inl (.int (Int32.ofNat 1))) 1675) from s_iconst (Int32.ofNat 1) dL_law_1674 (by decide +kernel)), ⟨(show xSim l P xMT (xMuL nm) 1675 (i_bin32 (fun x y => x + y) 1676) from s_iadd dL_law_1675), ⟨(show xSim l P xMT (xMuL nm) 1676 (i_sld P.2.2.2.2.1 1677) from s_sld dL_law_1676), ⟨(show xSim l P xMT (xMuL nm) 1677 (i_call (some 12) 189 2 0 0 1680) from s_callV 12 (q_X12_ran) t_X12_ran m_X12_ran dL_law_1677 rfl (xvc_12) w_1065 w_1066 w_1067 w_1064 w_490 h_X12_ran ⟨(show q_X12_ran.2.2.2.2.frames + 1 ≤ room_1.frames by decide +kernel), (show 8 + (q_X12_ran.2.2.1 + 11) + q_X12_ran.2.2.2.2.locals ≤ room_1.locals by decide +kernel)⟩), trivial⟩⟩⟩⟩⟩⟩⟩⟩⟩⟩⟩⟩
set_option maxRecDepth 100000 in
theorem o_k_L_law_105 {nm : String} {l : Launch} {P : xP} : xAll l P xMT (xMuL nm) 1680 (k_L_law_105 P.2.2.2.2.1) := ⟨(show xSim l P xMT (xMuL nm) 1680 (i_icmp 2 1754 1683) from s_icmp_eq 1754 dL_law_1680 (by decide +kernel)), ⟨(show xSim l P xMT (xMuL nm) 1685 (i_load x_isA 1 1686) from s_aload_n dL_law_1685 rfl), ⟨(show xSim l P xMT (xMuL nm) 1686 (i_load x_isA 0 1687) from s_aload_n dL_law_1686 rfl), ⟨(show xSim l P xMT (xMuL nm) 1687 (i_load x_isI 3 1688) from s_iload_n dL_law_1687 rfl), ⟨(show xSim l P xMT (xMuL nm) 1688 (i_push (.inl (.int (Int32.ofNat 1))) 1689) from s_iconst (Int32.ofNat 1) dL_law_1688 (by decide +kernel)), ⟨(show xSim l P xMT (xMuL nm) 1689 (i_bin32 (fun x y => x + y) 1690) from s_iadd dL_law_1689), ⟨(show xSim l P xMT (xMuL nm) 1690 (i_sld P.2.2.2.2.1 1691) from s_sld dL_law_1690), ⟨(show xSim l P xMT (xMuL nm) 1691 (i_load x_isA 0 1692) from s_aload_n dL_law_1691 rfl), ⟨(show xSim l P xMT (xMuL nm) 1692 (i_load x_isI 3 1693) from s_iload_n dL_law_1692 rfl), ⟨(show xSim l P xMT (xMuL nm) 1693 (i_push (.inl (.int (Int32.ofNat 2))) 1694) from s_iconst (Int32.ofNat 2) dL_law_1693 (by decide +kernel)), ⟨(show xSim l P xMT (xMuL nm) 1694 (i_bin32 (fun x y => x + y) 1695) from s_iadd dL_law_1694), ⟨(show xSim l P xMT (xMuL nm) 1695 (i_sld P.2.2.2.2.1 1696) from s_sld dL_law_1695), trivial⟩⟩⟩⟩⟩⟩⟩⟩⟩⟩⟩⟩
set_option maxRecDepth 100000 in
theorem o_k_L_law_106 {nm : String} {l : Launch} {P : xP} : xAll l P xMT (xMuL nm) 1696 (k_L_law_106 P.2.2.2.2.1) := ⟨(show xSim l P xMT (xMuL nm) 1696 (i_load x_isA 0 1697) from s_aload_n dL_law_1696 rfl), ⟨(show xSim l P xMT (xMuL nm) 1697 (i_load x_isI 3 1698) from s_iload_n dL_law_1697 rfl), ⟨(show xSim l P xMT (xMuL nm) 1698 (i_push (.inl (.int (Int32.ofNat 3))) 1699) from s_iconst (Int32.ofNat 3) dL_law_1698 (by decide +kernel)), ⟨(show xSim l P xMT (xMuL nm) 1699 (i_bin32 (fun x y => x + y) 1700) from s_iadd dL_law_1699), ⟨(show xSim l P xMT (xMuL nm) 1700 (i_sld P.2.2.2.2.1 1701) from s_sld dL_law_1700), ⟨(show xSim l P xMT (xMuL nm) 1701 (i_call (some 11) 75 4 0 0 1704) from s_callV 11 (q_X11_arrivals) t_X11_arrivals m_X11_arrivals dL_law_1701 rfl (xvc_11) w_1069 w_1070 w_1071 w_1068 w_249 h_X11_arrivals ⟨(show q_X11_arrivals.2.2.2.2.frames + 1 ≤ room_1.frames by decide +kernel), (show 8 + (q_X11_arrivals.2.2.1 + 11) + q_X11_arrivals.2.2.2.2.locals ≤ room_1.locals by decide +kernel)⟩), ⟨(show xSim l P xMT (xMuL nm) 1704 (i_load x_isA 2 1705) from s_aload_n dL_law_1704 rfl), ⟨(show xSim l P xMT (xMuL nm) 1705 (i_load x_isA 0 1706) from s_aload_n dL_law_1705 rfl), ⟨(show xSim l P xMT (xMuL nm) 1706 (i_load x_isI 3 1707) from s_iload_n dL_law_1706 rfl), ⟨(show xSim l P xMT (xMuL nm) 1707 (i_push (.inl (.int (Int32.ofNat 1))) 1708) from s_iconst (Int32.ofNat 1) dL_law_1707 (by decide +kernel)), ⟨(show xSim l P xMT (xMuL nm) 1708 (i_bin32 (fun x y => x + y) 1709) from s_iadd dL_law_1708), ⟨(show xSim l P xMT (xMuL nm) 1709 (i_sld P.2.2.2.2.1 1710) from s_sld dL_law_1709), ⟨(show xSim l P xMT (xMuL nm) 1710 (i_load x_isA 0 1711) from s_aload_n dL_law_1710 rfl), ⟨(show xSim l P xMT (xMuL nm) 1711 (i_load x_isI 3 1712) from s_iload_n dL_law_1711 rfl), trivial⟩⟩⟩⟩⟩⟩⟩⟩⟩⟩⟩⟩⟩⟩
set_option maxRecDepth 100000 in
theorem o_k_L_law_107 {nm : String} {l : Launch} {P : xP} : xAll l P xMT (xMuL nm) 1712 (k_L_law_107 P.2.2.2.2.1) := ⟨(show xSim l P xMT (xMuL nm) 1712 (i_push (.inl (.int (Int32.ofNat 2))) 1713) from s_iconst (Int32.ofNat 2) dL_law_1712 (by decide +kernel)), ⟨(show xSim l P xMT (xMuL nm) 1713 (i_bin32 (fun x y => x + y) 1714) from s_iadd dL_law_1713), ⟨(show xSim l P xMT (xMuL nm) 1714 (i_sld P.2.2.2.2.1 1715) from s_sld dL_law_1714), ⟨(show xSim l P xMT (xMuL nm) 1715 (i_load x_isA 0 1716) from s_aload_n dL_law_1715 rfl), ⟨(show xSim l P xMT (xMuL nm) 1716 (i_load x_isI 3 1717) from s_iload_n dL_law_1716 rfl), ⟨(show xSim l P xMT (xMuL nm) 1717 (i_push (.inl (.int (Int32.ofNat 3))) 1718) from s_iconst (Int32.ofNat 3) dL_law_1717 (by decide +kernel)), ⟨(show xSim l P xMT (xMuL nm) 1718 (i_bin32 (fun x y => x + y) 1719) from s_iadd dL_law_1718), ⟨(show xSim l P xMT (xMuL nm) 1719 (i_sld P.2.2.2.2.1 1720) from s_sld dL_law_1719), ⟨(show xSim l P xMT (xMuL nm) 1720 (i_call (some 12) 128 4 0 0 1723) from s_callV 12 (q_X12_arrivals) t_X12_arrivals m_X12_arrivals dL_law_1720 rfl (xvc_12) w_1073 w_1074 w_1075 w_1072 w_490 h_X12_arrivals ⟨(show q_X12_arrivals.2.2.2.2.frames + 1 ≤ room_1.frames by decide +kernel), (show 8 + (q_X12_arrivals.2.2.1 + 11) + q_X12_arrivals.2.2.2.2.locals ≤ room_1.locals by decide +kernel)⟩), ⟨(show xSim l P xMT (xMuL nm) 1723 (i_icmp 2 1754 1726) from s_icmp_eq 1754 dL_law_1723 (by decide +kernel)), trivial⟩⟩⟩⟩⟩⟩⟩⟩⟩⟩
set_option maxRecDepth 100000 in
theorem o_k_L_law_108 {nm : String} {l : Launch} {P : xP} : xAll l P xMT (xMuL nm) 1728 (k_L_law_108 P.2.2.2.2.1) := ⟨(show xSim l P xMT (xMuL nm) 1728 (i_load x_isA 1 1729) from s_aload_n dL_law_1728 rfl), ⟨(show xSim l P xMT (xMuL nm) 1729 (i_call (some 11) 98 1 0 0 1732) from s_callV 11 (q_X11_mark) t_X11_mark m_X11_mark dL_law_1729 rfl (xvc_11) w_1077 w_1078 w_1079 w_1076 w_249 h_X11_mark ⟨(show q_X11_mark.2.2.2.2.frames + 1 ≤ room_1.frames by decide +kernel), (show 8 + (q_X11_mark.2.2.1 + 11) + q_X11_mark.2.2.2.2.locals ≤ room_1.locals by decide +kernel)⟩), ⟨(show xSim l P xMT (xMuL nm) 1732 (i_load x_isA 2 1733) from s_aload_n dL_law_1732 rfl), ⟨(show xSim l P xMT (xMuL nm) 1733 (i_call (some 12) 176 1 0 0 1736) from s_callV 12 (q_X12_mark) t_X12_mark m_X12_mark dL_law_1733 rfl (xvc_12) w_1081 w_1082 w_1083 w_1080 w_490 h_X12_mark ⟨(show q_X12_mark.2.2.2.2.frames + 1 ≤ room_1.frames by decide +kernel), (show 8 + (q_X12_mark.2.2.1 + 11) + q_X12_mark.2.2.2.2.locals ≤ room_1.locals by decide +kernel)⟩), ⟨(show xSim l P xMT (xMuL nm) 1736 (i_icmp 2 1754 1739) from s_icmp_eq 1754 dL_law_1736 (by decide +kernel)), ⟨(show xSim l P xMT (xMuL nm) 1741 (i_load x_isA 1 1742) from s_aload_n dL_law_1741 rfl), ⟨(show xSim l P xMT (xMuL nm) 1742 (i_call (some 11) 76 1 0 0 1745) from s_callV 11 (q_X11_back) t_X11_back m_X11_back dL_law_1742 rfl (xvc_11) w_1085 w_1086 w_1087 w_1084 w_249 h_X11_back ⟨(show q_X11_back.2.2.2.2.frames + 1 ≤ room_1.frames by decide +kernel), (show 8 + (q_X11_back.2.2.1 + 11) + q_X11_back.2.2.2.2.locals ≤ room_1.locals by decide +kernel)⟩), trivial⟩⟩⟩⟩⟩⟩⟩
set_option maxRecDepth 100000 in
theorem o_k_L_law_109 {nm : String} {l : Launch} {P : xP} : xAll l P xMT (xMuL nm) 1744 (k_L_law_109 P.2.2.2.2.1) := ⟨(show xSim l P xMT (xMuL nm) 1745 (i_load x_isA 2 1746) from s_aload_n dL_law_1745 rfl), ⟨(show xSim l P xMT (xMuL nm) 1746 (i_call (some 12) 131 1 0 0 1749) from s_callV 12 (q_X12_back) t_X12_back m_X12_back dL_law_1746 rfl (xvc_12) w_1089 w_1090 w_1091 w_1088 w_490 h_X12_back ⟨(show q_X12_back.2.2.2.2.frames + 1 ≤ room_1.frames by decide +kernel), (show 8 + (q_X12_back.2.2.1 + 11) + q_X12_back.2.2.2.2.locals ≤ room_1.locals by decide +kernel)⟩), ⟨(show xSim l P xMT (xMuL nm) 1749 (i_icmp 2 1754 1752) from s_icmp_eq 1754 dL_law_1749 (by decide +kernel)), ⟨(show xSim l P xMT (xMuL nm) 1754 (i_iinc 4 3 (Int32.ofNat 6) 1757) from s_iinc (Int32.ofNat 6) dL_law_1754 (by decide +kernel)), ⟨(show xSim l P xMT (xMuL nm) 1757 (i_jump 18) from s_goto 18 dL_law_1757 (by decide +kernel)), trivial⟩⟩⟩⟩⟩
set_option maxRecDepth 100000 in
theorem o_k_L_law_110 {nm : String} {l : Launch} {P : xP} : xAll l P xMT (xMuL nm) 1760 (k_L_law_110 P.2.2.2.2.1) := ⟨(show xSim l P xMT (xMuL nm) 1760 (i_push (.inl (.int (Int32.ofNat 1))) 1761) from s_iconst (Int32.ofNat 1) dL_law_1760 (by decide +kernel)), ⟨(show xSim l P xMT (xMuL nm) 1761 (i_reti .boolean) from s_reti .boolean dL_law_1761 rfl), trivial⟩⟩
theorem o_L_law {nm : String} {l : Launch} {P : xP} : xTabOK l P xMT (xMuL nm) (t_L_law P.2.2.2.2.1) := xTabOK.of ⟨o_k_L_law_0, ⟨o_k_L_law_1, ⟨o_k_L_law_2, ⟨o_k_L_law_3, ⟨o_k_L_law_4, ⟨o_k_L_law_5, ⟨o_k_L_law_6, ⟨o_k_L_law_7, ⟨o_k_L_law_8, ⟨o_k_L_law_9, ⟨o_k_L_law_10, ⟨o_k_L_law_11, ⟨o_k_L_law_12, ⟨o_k_L_law_13, ⟨o_k_L_law_14, ⟨o_k_L_law_15, ⟨o_k_L_law_16, ⟨o_k_L_law_17, ⟨o_k_L_law_18, ⟨o_k_L_law_19, ⟨o_k_L_law_20, ⟨o_k_L_law_21, ⟨o_k_L_law_22, ⟨o_k_L_law_23, ⟨o_k_L_law_24, ⟨o_k_L_law_25, ⟨o_k_L_law_26, ⟨o_k_L_law_27, ⟨o_k_L_law_28, ⟨o_k_L_law_29, ⟨o_k_L_law_30, ⟨o_k_L_law_31, ⟨o_k_L_law_32, ⟨o_k_L_law_33, ⟨o_k_L_law_34, ⟨o_k_L_law_35, ⟨o_k_L_law_36, ⟨o_k_L_law_37, ⟨o_k_L_law_38, ⟨o_k_L_law_39, ⟨o_k_L_law_40, ⟨o_k_L_law_41, ⟨o_k_L_law_42, ⟨o_k_L_law_43, ⟨o_k_L_law_44, ⟨o_k_L_law_45, ⟨o_k_L_law_46, ⟨o_k_L_law_47, ⟨o_k_L_law_48, ⟨o_k_L_law_49, ⟨o_k_L_law_50, ⟨o_k_L_law_51, ⟨o_k_L_law_52, ⟨o_k_L_law_53, ⟨o_k_L_law_54, ⟨o_k_L_law_55, ⟨o_k_L_law_56, ⟨o_k_L_law_57, ⟨o_k_L_law_58, ⟨o_k_L_law_59, ⟨o_k_L_law_60, ⟨o_k_L_law_61, ⟨o_k_L_law_62, ⟨o_k_L_law_63, ⟨o_k_L_law_64, ⟨o_k_L_law_65, ⟨o_k_L_law_66, ⟨o_k_L_law_67, ⟨o_k_L_law_68, ⟨o_k_L_law_69, ⟨o_k_L_law_70, ⟨o_k_L_law_71, ⟨o_k_L_law_72, ⟨o_k_L_law_73, ⟨o_k_L_law_74, ⟨o_k_L_law_75, ⟨o_k_L_law_76, ⟨o_k_L_law_77, ⟨o_k_L_law_78, ⟨o_k_L_law_79, ⟨o_k_L_law_80, ⟨o_k_L_law_81, ⟨o_k_L_law_82, ⟨o_k_L_law_83, ⟨o_k_L_law_84, ⟨o_k_L_law_85, ⟨o_k_L_law_86, ⟨o_k_L_law_87, ⟨o_k_L_law_88, ⟨o_k_L_law_89, ⟨o_k_L_law_90, ⟨o_k_L_law_91, ⟨o_k_L_law_92, ⟨o_k_L_law_93, ⟨o_k_L_law_94, ⟨o_k_L_law_95, ⟨o_k_L_law_96, ⟨o_k_L_law_97, ⟨o_k_L_law_98, ⟨o_k_L_law_99, ⟨o_k_L_law_100, ⟨o_k_L_law_101, ⟨o_k_L_law_102, ⟨o_k_L_law_103, ⟨o_k_L_law_104, ⟨o_k_L_law_105, ⟨o_k_L_law_106, ⟨o_k_L_law_107, ⟨o_k_L_law_108, ⟨o_k_L_law_109, ⟨o_k_L_law_110, trivial⟩⟩⟩⟩⟩⟩⟩⟩⟩⟩⟩⟩⟩⟩⟩⟩⟩⟩⟩⟩⟩⟩⟩⟩⟩⟩⟩⟩⟩⟩⟩⟩⟩⟩⟩⟩⟩⟩⟩⟩⟩⟩⟩⟩⟩⟩⟩⟩⟩⟩⟩⟩⟩⟩⟩⟩⟩⟩⟩⟩⟩⟩⟩⟩⟩⟩⟩⟩⟩⟩⟩⟩⟩⟩⟩⟩⟩⟩⟩⟩⟩⟩⟩⟩⟩⟩⟩⟩⟩⟩⟩⟩⟩⟩⟩⟩⟩⟩⟩⟩⟩⟩⟩⟩⟩⟩⟩⟩⟩⟩⟩
