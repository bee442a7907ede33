/-! printed: the decode rows, and each step by its row -/
theorem dL_law_18 : decode cL_law 18 = .ok (.iload_n 3, 1) := by decide +kernel
theorem dL_law_19 : decode cL_law 19 = .ok (.aload_n 0, 1) := by decide +kernel
theorem dL_law_20 : decode cL_law 20 = .ok (.arraylength, 1) := by decide +kernel
theorem dL_law_21 : decode cL_law 21 = .ok (.bipush 6, 2) := by decide +kernel
theorem dL_law_23 : decode cL_law 23 = .ok (.isub, 1) := by decide +kernel
theorem dL_law_24 : decode cL_law 24 = .ok (.if_icmp .gt 1732, 3) := by decide +kernel
theorem dL_law_27 : decode cL_law 27 = .ok (.aload_n 0, 1) := by decide +kernel
theorem dL_law_28 : decode cL_law 28 = .ok (.iload_n 3, 1) := by decide +kernel
theorem dL_law_29 : decode cL_law 29 = .ok (.iaload, 1) := by decide +kernel
theorem dL_law_30 : decode cL_law 30 = .ok (.bipush 63, 2) := by decide +kernel
theorem dL_law_32 : decode cL_law 32 = .ok (.iand, 1) := by decide +kernel
theorem dL_law_33 : decode cL_law 33 = .ok (.tableswitch 1717 0 45 #[199, 212, 225, 238, 281, 354, 387, 450, 513, 536, 559, 582, 605, 648, 691, 734, 767, 810, 853, 896, 939, 972, 1005, 1038, 1061, 1084, 1117, 1140, 1153, 1176, 1199, 1232, 1245, 1278, 1321, 1344, 1387, 1420, 1453, 1496, 1559, 1602, 1625, 1648, 1691, 1704], 199) := by decide +kernel
theorem dL_law_232 : decode cL_law 232 = .ok (.aload_n 1, 1) := by decide +kernel
theorem dL_law_233 : decode cL_law 233 = .ok (.invokevirtual 13, 3) := by decide +kernel
theorem dL_law_236 : decode cL_law 236 = .ok (.pop, 1) := by decide +kernel
theorem dL_law_237 : decode cL_law 237 = .ok (.aload_n 2, 1) := by decide +kernel
theorem dL_law_238 : decode cL_law 238 = .ok (.invokevirtual 17, 3) := by decide +kernel
theorem dL_law_241 : decode cL_law 241 = .ok (.pop, 1) := by decide +kernel
theorem dL_law_242 : decode cL_law 242 = .ok (.goto 1508, 3) := by decide +kernel
theorem dL_law_245 : decode cL_law 245 = .ok (.aload_n 1, 1) := by decide +kernel
theorem dL_law_246 : decode cL_law 246 = .ok (.invokevirtual 18, 3) := by decide +kernel
theorem dL_law_249 : decode cL_law 249 = .ok (.pop2, 1) := by decide +kernel
theorem dL_law_250 : decode cL_law 250 = .ok (.aload_n 2, 1) := by decide +kernel
theorem dL_law_251 : decode cL_law 251 = .ok (.invokevirtual 22, 3) := by decide +kernel
theorem dL_law_254 : decode cL_law 254 = .ok (.pop2, 1) := by decide +kernel
theorem dL_law_255 : decode cL_law 255 = .ok (.goto 1495, 3) := by decide +kernel
theorem dL_law_258 : decode cL_law 258 = .ok (.aload_n 1, 1) := by decide +kernel
theorem dL_law_259 : decode cL_law 259 = .ok (.invokevirtual 23, 3) := by decide +kernel
theorem dL_law_262 : decode cL_law 262 = .ok (.pop2, 1) := by decide +kernel
theorem dL_law_263 : decode cL_law 263 = .ok (.aload_n 2, 1) := by decide +kernel
theorem dL_law_264 : decode cL_law 264 = .ok (.invokevirtual 26, 3) := by decide +kernel
theorem dL_law_267 : decode cL_law 267 = .ok (.pop2, 1) := by decide +kernel
theorem dL_law_268 : decode cL_law 268 = .ok (.goto 1482, 3) := by decide +kernel
theorem dL_law_271 : decode cL_law 271 = .ok (.aload_n 1, 1) := by decide +kernel
theorem dL_law_272 : decode cL_law 272 = .ok (.aload_n 0, 1) := by decide +kernel
theorem dL_law_273 : decode cL_law 273 = .ok (.iload_n 3, 1) := by decide +kernel
theorem dL_law_274 : decode cL_law 274 = .ok (.iconst 1, 1) := by decide +kernel
theorem dL_law_275 : decode cL_law 275 = .ok (.iadd, 1) := by decide +kernel
theorem dL_law_276 : decode cL_law 276 = .ok (.iaload, 1) := by decide +kernel
theorem dL_law_277 : decode cL_law 277 = .ok (.aload_n 0, 1) := by decide +kernel
theorem dL_law_278 : decode cL_law 278 = .ok (.iload_n 3, 1) := by decide +kernel
theorem dL_law_279 : decode cL_law 279 = .ok (.iconst 2, 1) := by decide +kernel
theorem dL_law_280 : decode cL_law 280 = .ok (.iadd, 1) := by decide +kernel
theorem dL_law_281 : decode cL_law 281 = .ok (.iaload, 1) := by decide +kernel
theorem dL_law_282 : decode cL_law 282 = .ok (.aload_n 0, 1) := by decide +kernel
theorem dL_law_283 : decode cL_law 283 = .ok (.iload_n 3, 1) := by decide +kernel
theorem dL_law_284 : decode cL_law 284 = .ok (.iconst 3, 1) := by decide +kernel
theorem dL_law_285 : decode cL_law 285 = .ok (.iadd, 1) := by decide +kernel
theorem dL_law_286 : decode cL_law 286 = .ok (.iaload, 1) := by decide +kernel
theorem dL_law_287 : decode cL_law 287 = .ok (.invokevirtual 27, 3) := by decide +kernel
theorem dL_law_290 : decode cL_law 290 = .ok (.pop, 1) := by decide +kernel
theorem dL_law_291 : decode cL_law 291 = .ok (.aload_n 2, 1) := by decide +kernel
theorem dL_law_292 : decode cL_law 292 = .ok (.aload_n 0, 1) := by decide +kernel
theorem dL_law_293 : decode cL_law 293 = .ok (.iload_n 3, 1) := by decide +kernel
theorem dL_law_294 : decode cL_law 294 = .ok (.iconst 1, 1) := by decide +kernel
theorem dL_law_295 : decode cL_law 295 = .ok (.iadd, 1) := by decide +kernel
theorem dL_law_296 : decode cL_law 296 = .ok (.iaload, 1) := by decide +kernel
theorem dL_law_297 : decode cL_law 297 = .ok (.aload_n 0, 1) := by decide +kernel
theorem dL_law_298 : decode cL_law 298 = .ok (.iload_n 3, 1) := by decide +kernel
theorem dL_law_299 : decode cL_law 299 = .ok (.iconst 2, 1) := by decide +kernel
theorem dL_law_300 : decode cL_law 300 = .ok (.iadd, 1) := by decide +kernel
theorem dL_law_301 : decode cL_law 301 = .ok (.iaload, 1) := by decide +kernel
theorem dL_law_302 : decode cL_law 302 = .ok (.aload_n 0, 1) := by decide +kernel
theorem dL_law_303 : decode cL_law 303 = .ok (.iload_n 3, 1) := by decide +kernel
theorem dL_law_304 : decode cL_law 304 = .ok (.iconst 3, 1) := by decide +kernel
theorem dL_law_305 : decode cL_law 305 = .ok (.iadd, 1) := by decide +kernel
theorem dL_law_306 : decode cL_law 306 = .ok (.iaload, 1) := by decide +kernel
theorem dL_law_307 : decode cL_law 307 = .ok (.invokevirtual 31, 3) := by decide +kernel
theorem dL_law_310 : decode cL_law 310 = .ok (.pop, 1) := by decide +kernel
theorem dL_law_311 : decode cL_law 311 = .ok (.goto 1439, 3) := by decide +kernel
theorem dL_law_314 : decode cL_law 314 = .ok (.aload_n 1, 1) := by decide +kernel
theorem dL_law_315 : decode cL_law 315 = .ok (.aload_n 0, 1) := by decide +kernel
theorem dL_law_316 : decode cL_law 316 = .ok (.iload_n 3, 1) := by decide +kernel
theorem dL_law_317 : decode cL_law 317 = .ok (.iconst 1, 1) := by decide +kernel
theorem dL_law_318 : decode cL_law 318 = .ok (.iadd, 1) := by decide +kernel
theorem dL_law_319 : decode cL_law 319 = .ok (.iaload, 1) := by decide +kernel
theorem dL_law_320 : decode cL_law 320 = .ok (.aload_n 0, 1) := by decide +kernel
theorem dL_law_321 : decode cL_law 321 = .ok (.iload_n 3, 1) := by decide +kernel
theorem dL_law_322 : decode cL_law 322 = .ok (.iconst 2, 1) := by decide +kernel
theorem dL_law_323 : decode cL_law 323 = .ok (.iadd, 1) := by decide +kernel
theorem dL_law_324 : decode cL_law 324 = .ok (.iaload, 1) := by decide +kernel
theorem dL_law_325 : decode cL_law 325 = .ok (.aload_n 0, 1) := by decide +kernel
theorem dL_law_326 : decode cL_law 326 = .ok (.iload_n 3, 1) := by decide +kernel
theorem dL_law_327 : decode cL_law 327 = .ok (.iconst 3, 1) := by decide +kernel
theorem dL_law_328 : decode cL_law 328 = .ok (.iadd, 1) := by decide +kernel
theorem dL_law_329 : decode cL_law 329 = .ok (.iaload, 1) := by decide +kernel
theorem dL_law_330 : decode cL_law 330 = .ok (.i2l, 1) := by decide +kernel
theorem dL_law_331 : decode cL_law 331 = .ok (.bipush 32, 2) := by decide +kernel
theorem dL_law_333 : decode cL_law 333 = .ok (.lshl, 1) := by decide +kernel
theorem dL_law_334 : decode cL_law 334 = .ok (.aload_n 0, 1) := by decide +kernel
theorem dL_law_335 : decode cL_law 335 = .ok (.iload_n 3, 1) := by decide +kernel
theorem dL_law_336 : decode cL_law 336 = .ok (.iconst 4, 1) := by decide +kernel
theorem dL_law_337 : decode cL_law 337 = .ok (.iadd, 1) := by decide +kernel
theorem dL_law_338 : decode cL_law 338 = .ok (.iaload, 1) := by decide +kernel
theorem dL_law_339 : decode cL_law 339 = .ok (.i2l, 1) := by decide +kernel
theorem dL_law_340 : decode cL_law 340 = .ok (.ldc2_w 32, 3) := by decide +kernel
theorem dL_law_343 : decode cL_law 343 = .ok (.land, 1) := by decide +kernel
theorem dL_law_344 : decode cL_law 344 = .ok (.lor, 1) := by decide +kernel
theorem dL_law_345 : decode cL_law 345 = .ok (.invokevirtual 34, 3) := by decide +kernel
theorem dL_law_348 : decode cL_law 348 = .ok (.pop, 1) := by decide +kernel
theorem dL_law_349 : decode cL_law 349 = .ok (.aload_n 2, 1) := by decide +kernel
theorem dL_law_350 : decode cL_law 350 = .ok (.aload_n 0, 1) := by decide +kernel
theorem dL_law_351 : decode cL_law 351 = .ok (.iload_n 3, 1) := by decide +kernel
theorem dL_law_352 : decode cL_law 352 = .ok (.iconst 1, 1) := by decide +kernel
theorem dL_law_353 : decode cL_law 353 = .ok (.iadd, 1) := by decide +kernel
theorem dL_law_354 : decode cL_law 354 = .ok (.iaload, 1) := by decide +kernel
theorem dL_law_355 : decode cL_law 355 = .ok (.aload_n 0, 1) := by decide +kernel
theorem dL_law_356 : decode cL_law 356 = .ok (.iload_n 3, 1) := by decide +kernel
theorem dL_law_357 : decode cL_law 357 = .ok (.iconst 2, 1) := by decide +kernel
theorem dL_law_358 : decode cL_law 358 = .ok (.iadd, 1) := by decide +kernel
theorem dL_law_359 : decode cL_law 359 = .ok (.iaload, 1) := by decide +kernel
theorem dL_law_360 : decode cL_law 360 = .ok (.aload_n 0, 1) := by decide +kernel
theorem dL_law_361 : decode cL_law 361 = .ok (.iload_n 3, 1) := by decide +kernel
theorem dL_law_362 : decode cL_law 362 = .ok (.iconst 3, 1) := by decide +kernel
theorem dL_law_363 : decode cL_law 363 = .ok (.iadd, 1) := by decide +kernel
theorem dL_law_364 : decode cL_law 364 = .ok (.iaload, 1) := by decide +kernel
theorem dL_law_365 : decode cL_law 365 = .ok (.i2l, 1) := by decide +kernel
theorem dL_law_366 : decode cL_law 366 = .ok (.bipush 32, 2) := by decide +kernel
theorem dL_law_368 : decode cL_law 368 = .ok (.lshl, 1) := by decide +kernel
theorem dL_law_369 : decode cL_law 369 = .ok (.aload_n 0, 1) := by decide +kernel
theorem dL_law_370 : decode cL_law 370 = .ok (.iload_n 3, 1) := by decide +kernel
theorem dL_law_371 : decode cL_law 371 = .ok (.iconst 4, 1) := by decide +kernel
theorem dL_law_372 : decode cL_law 372 = .ok (.iadd, 1) := by decide +kernel
theorem dL_law_373 : decode cL_law 373 = .ok (.iaload, 1) := by decide +kernel
theorem dL_law_374 : decode cL_law 374 = .ok (.i2l, 1) := by decide +kernel
theorem dL_law_375 : decode cL_law 375 = .ok (.ldc2_w 32, 3) := by decide +kernel
theorem dL_law_378 : decode cL_law 378 = .ok (.land, 1) := by decide +kernel
theorem dL_law_379 : decode cL_law 379 = .ok (.lor, 1) := by decide +kernel
theorem dL_law_380 : decode cL_law 380 = .ok (.invokevirtual 38, 3) := by decide +kernel
theorem dL_law_383 : decode cL_law 383 = .ok (.pop, 1) := by decide +kernel
theorem dL_law_384 : decode cL_law 384 = .ok (.goto 1366, 3) := by decide +kernel
theorem dL_law_387 : decode cL_law 387 = .ok (.aload_n 1, 1) := by decide +kernel
theorem dL_law_388 : decode cL_law 388 = .ok (.aload_n 0, 1) := by decide +kernel
theorem dL_law_389 : decode cL_law 389 = .ok (.iload_n 3, 1) := by decide +kernel
theorem dL_law_390 : decode cL_law 390 = .ok (.iconst 1, 1) := by decide +kernel
theorem dL_law_391 : decode cL_law 391 = .ok (.iadd, 1) := by decide +kernel
theorem dL_law_392 : decode cL_law 392 = .ok (.iaload, 1) := by decide +kernel
theorem dL_law_393 : decode cL_law 393 = .ok (.aload_n 0, 1) := by decide +kernel
theorem dL_law_394 : decode cL_law 394 = .ok (.iload_n 3, 1) := by decide +kernel
theorem dL_law_395 : decode cL_law 395 = .ok (.iconst 2, 1) := by decide +kernel
theorem dL_law_396 : decode cL_law 396 = .ok (.iadd, 1) := by decide +kernel
theorem dL_law_397 : decode cL_law 397 = .ok (.iaload, 1) := by decide +kernel
theorem dL_law_398 : decode cL_law 398 = .ok (.invokevirtual 39, 3) := by decide +kernel
theorem dL_law_401 : decode cL_law 401 = .ok (.pop2, 1) := by decide +kernel
theorem dL_law_402 : decode cL_law 402 = .ok (.aload_n 2, 1) := by decide +kernel
theorem dL_law_403 : decode cL_law 403 = .ok (.aload_n 0, 1) := by decide +kernel
theorem dL_law_404 : decode cL_law 404 = .ok (.iload_n 3, 1) := by decide +kernel
theorem dL_law_405 : decode cL_law 405 = .ok (.iconst 1, 1) := by decide +kernel
theorem dL_law_406 : decode cL_law 406 = .ok (.iadd, 1) := by decide +kernel
theorem dL_law_407 : decode cL_law 407 = .ok (.iaload, 1) := by decide +kernel
theorem dL_law_408 : decode cL_law 408 = .ok (.aload_n 0, 1) := by decide +kernel
theorem dL_law_409 : decode cL_law 409 = .ok (.iload_n 3, 1) := by decide +kernel
theorem dL_law_410 : decode cL_law 410 = .ok (.iconst 2, 1) := by decide +kernel
theorem dL_law_411 : decode cL_law 411 = .ok (.iadd, 1) := by decide +kernel
theorem dL_law_412 : decode cL_law 412 = .ok (.iaload, 1) := by decide +kernel
theorem dL_law_413 : decode cL_law 413 = .ok (.invokevirtual 43, 3) := by decide +kernel
theorem dL_law_416 : decode cL_law 416 = .ok (.pop2, 1) := by decide +kernel
theorem dL_law_417 : decode cL_law 417 = .ok (.goto 1333, 3) := by decide +kernel
theorem dL_law_420 : decode cL_law 420 = .ok (.aload_n 1, 1) := by decide +kernel
theorem dL_law_421 : decode cL_law 421 = .ok (.aload_n 0, 1) := by decide +kernel
theorem dL_law_422 : decode cL_law 422 = .ok (.iload_n 3, 1) := by decide +kernel
theorem dL_law_423 : decode cL_law 423 = .ok (.iconst 1, 1) := by decide +kernel
theorem dL_law_424 : decode cL_law 424 = .ok (.iadd, 1) := by decide +kernel
theorem dL_law_425 : decode cL_law 425 = .ok (.iaload, 1) := by decide +kernel
theorem dL_law_426 : decode cL_law 426 = .ok (.aload_n 0, 1) := by decide +kernel
theorem dL_law_427 : decode cL_law 427 = .ok (.iload_n 3, 1) := by decide +kernel
theorem dL_law_428 : decode cL_law 428 = .ok (.iconst 2, 1) := by decide +kernel
theorem dL_law_429 : decode cL_law 429 = .ok (.iadd, 1) := by decide +kernel
theorem dL_law_430 : decode cL_law 430 = .ok (.iaload, 1) := by decide +kernel
theorem dL_law_431 : decode cL_law 431 = .ok (.aload_n 0, 1) := by decide +kernel
theorem dL_law_432 : decode cL_law 432 = .ok (.iload_n 3, 1) := by decide +kernel
theorem dL_law_433 : decode cL_law 433 = .ok (.iconst 3, 1) := by decide +kernel
theorem dL_law_434 : decode cL_law 434 = .ok (.iadd, 1) := by decide +kernel
theorem dL_law_435 : decode cL_law 435 = .ok (.iaload, 1) := by decide +kernel
theorem dL_law_436 : decode cL_law 436 = .ok (.aload_n 0, 1) := by decide +kernel
theorem dL_law_437 : decode cL_law 437 = .ok (.iload_n 3, 1) := by decide +kernel
theorem dL_law_438 : decode cL_law 438 = .ok (.iconst 4, 1) := by decide +kernel
theorem dL_law_439 : decode cL_law 439 = .ok (.iadd, 1) := by decide +kernel
theorem dL_law_440 : decode cL_law 440 = .ok (.iaload, 1) := by decide +kernel
theorem dL_law_441 : decode cL_law 441 = .ok (.aload_n 0, 1) := by decide +kernel
theorem dL_law_442 : decode cL_law 442 = .ok (.iload_n 3, 1) := by decide +kernel
theorem dL_law_443 : decode cL_law 443 = .ok (.iconst 5, 1) := by decide +kernel
theorem dL_law_444 : decode cL_law 444 = .ok (.iadd, 1) := by decide +kernel
theorem dL_law_445 : decode cL_law 445 = .ok (.iaload, 1) := by decide +kernel
theorem dL_law_446 : decode cL_law 446 = .ok (.invokevirtual 44, 3) := by decide +kernel
theorem dL_law_449 : decode cL_law 449 = .ok (.pop, 1) := by decide +kernel
theorem dL_law_450 : decode cL_law 450 = .ok (.aload_n 2, 1) := by decide +kernel
theorem dL_law_451 : decode cL_law 451 = .ok (.aload_n 0, 1) := by decide +kernel
theorem dL_law_452 : decode cL_law 452 = .ok (.iload_n 3, 1) := by decide +kernel
theorem dL_law_453 : decode cL_law 453 = .ok (.iconst 1, 1) := by decide +kernel
theorem dL_law_454 : decode cL_law 454 = .ok (.iadd, 1) := by decide +kernel
theorem dL_law_455 : decode cL_law 455 = .ok (.iaload, 1) := by decide +kernel
theorem dL_law_456 : decode cL_law 456 = .ok (.aload_n 0, 1) := by decide +kernel
theorem dL_law_457 : decode cL_law 457 = .ok (.iload_n 3, 1) := by decide +kernel
theorem dL_law_458 : decode cL_law 458 = .ok (.iconst 2, 1) := by decide +kernel
theorem dL_law_459 : decode cL_law 459 = .ok (.iadd, 1) := by decide +kernel
theorem dL_law_460 : decode cL_law 460 = .ok (.iaload, 1) := by decide +kernel
theorem dL_law_461 : decode cL_law 461 = .ok (.aload_n 0, 1) := by decide +kernel
theorem dL_law_462 : decode cL_law 462 = .ok (.iload_n 3, 1) := by decide +kernel
theorem dL_law_463 : decode cL_law 463 = .ok (.iconst 3, 1) := by decide +kernel
theorem dL_law_464 : decode cL_law 464 = .ok (.iadd, 1) := by decide +kernel
theorem dL_law_465 : decode cL_law 465 = .ok (.iaload, 1) := by decide +kernel
theorem dL_law_466 : decode cL_law 466 = .ok (.aload_n 0, 1) := by decide +kernel
theorem dL_law_467 : decode cL_law 467 = .ok (.iload_n 3, 1) := by decide +kernel
theorem dL_law_468 : decode cL_law 468 = .ok (.iconst 4, 1) := by decide +kernel
theorem dL_law_469 : decode cL_law 469 = .ok (.iadd, 1) := by decide +kernel
theorem dL_law_470 : decode cL_law 470 = .ok (.iaload, 1) := by decide +kernel
theorem dL_law_471 : decode cL_law 471 = .ok (.aload_n 0, 1) := by decide +kernel
theorem dL_law_472 : decode cL_law 472 = .ok (.iload_n 3, 1) := by decide +kernel
theorem dL_law_473 : decode cL_law 473 = .ok (.iconst 5, 1) := by decide +kernel
theorem dL_law_474 : decode cL_law 474 = .ok (.iadd, 1) := by decide +kernel
theorem dL_law_475 : decode cL_law 475 = .ok (.iaload, 1) := by decide +kernel
theorem dL_law_476 : decode cL_law 476 = .ok (.invokevirtual 48, 3) := by decide +kernel
theorem dL_law_479 : decode cL_law 479 = .ok (.pop, 1) := by decide +kernel
theorem dL_law_480 : decode cL_law 480 = .ok (.goto 1270, 3) := by decide +kernel
theorem dL_law_483 : decode cL_law 483 = .ok (.aload_n 1, 1) := by decide +kernel
theorem dL_law_484 : decode cL_law 484 = .ok (.aload_n 0, 1) := by decide +kernel
theorem dL_law_485 : decode cL_law 485 = .ok (.iload_n 3, 1) := by decide +kernel
theorem dL_law_486 : decode cL_law 486 = .ok (.iconst 1, 1) := by decide +kernel
theorem dL_law_487 : decode cL_law 487 = .ok (.iadd, 1) := by decide +kernel
theorem dL_law_488 : decode cL_law 488 = .ok (.iaload, 1) := by decide +kernel
theorem dL_law_489 : decode cL_law 489 = .ok (.aload_n 0, 1) := by decide +kernel
theorem dL_law_490 : decode cL_law 490 = .ok (.iload_n 3, 1) := by decide +kernel
theorem dL_law_491 : decode cL_law 491 = .ok (.iconst 2, 1) := by decide +kernel
theorem dL_law_492 : decode cL_law 492 = .ok (.iadd, 1) := by decide +kernel
theorem dL_law_493 : decode cL_law 493 = .ok (.iaload, 1) := by decide +kernel
theorem dL_law_494 : decode cL_law 494 = .ok (.aload_n 0, 1) := by decide +kernel
theorem dL_law_495 : decode cL_law 495 = .ok (.iload_n 3, 1) := by decide +kernel
theorem dL_law_496 : decode cL_law 496 = .ok (.iconst 3, 1) := by decide +kernel
theorem dL_law_497 : decode cL_law 497 = .ok (.iadd, 1) := by decide +kernel
theorem dL_law_498 : decode cL_law 498 = .ok (.iaload, 1) := by decide +kernel
theorem dL_law_499 : decode cL_law 499 = .ok (.aload_n 0, 1) := by decide +kernel
theorem dL_law_500 : decode cL_law 500 = .ok (.iload_n 3, 1) := by decide +kernel
theorem dL_law_501 : decode cL_law 501 = .ok (.iconst 4, 1) := by decide +kernel
theorem dL_law_502 : decode cL_law 502 = .ok (.iadd, 1) := by decide +kernel
theorem dL_law_503 : decode cL_law 503 = .ok (.iaload, 1) := by decide +kernel
theorem dL_law_504 : decode cL_law 504 = .ok (.aload_n 0, 1) := by decide +kernel
theorem dL_law_505 : decode cL_law 505 = .ok (.iload_n 3, 1) := by decide +kernel
theorem dL_law_506 : decode cL_law 506 = .ok (.iconst 5, 1) := by decide +kernel
theorem dL_law_507 : decode cL_law 507 = .ok (.iadd, 1) := by decide +kernel
theorem dL_law_508 : decode cL_law 508 = .ok (.iaload, 1) := by decide +kernel
theorem dL_law_509 : decode cL_law 509 = .ok (.invokevirtual 49, 3) := by decide +kernel
theorem dL_law_512 : decode cL_law 512 = .ok (.pop, 1) := by decide +kernel
theorem dL_law_513 : decode cL_law 513 = .ok (.aload_n 2, 1) := by decide +kernel
theorem dL_law_514 : decode cL_law 514 = .ok (.aload_n 0, 1) := by decide +kernel
theorem dL_law_515 : decode cL_law 515 = .ok (.iload_n 3, 1) := by decide +kernel
theorem dL_law_516 : decode cL_law 516 = .ok (.iconst 1, 1) := by decide +kernel
theorem dL_law_517 : decode cL_law 517 = .ok (.iadd, 1) := by decide +kernel
theorem dL_law_518 : decode cL_law 518 = .ok (.iaload, 1) := by decide +kernel
theorem dL_law_519 : decode cL_law 519 = .ok (.aload_n 0, 1) := by decide +kernel
theorem dL_law_520 : decode cL_law 520 = .ok (.iload_n 3, 1) := by decide +kernel
theorem dL_law_521 : decode cL_law 521 = .ok (.iconst 2, 1) := by decide +kernel
theorem dL_law_522 : decode cL_law 522 = .ok (.iadd, 1) := by decide +kernel
theorem dL_law_523 : decode cL_law 523 = .ok (.iaload, 1) := by decide +kernel
theorem dL_law_524 : decode cL_law 524 = .ok (.aload_n 0, 1) := by decide +kernel
theorem dL_law_525 : decode cL_law 525 = .ok (.iload_n 3, 1) := by decide +kernel
theorem dL_law_526 : decode cL_law 526 = .ok (.iconst 3, 1) := by decide +kernel
theorem dL_law_527 : decode cL_law 527 = .ok (.iadd, 1) := by decide +kernel
theorem dL_law_528 : decode cL_law 528 = .ok (.iaload, 1) := by decide +kernel
theorem dL_law_529 : decode cL_law 529 = .ok (.aload_n 0, 1) := by decide +kernel
theorem dL_law_530 : decode cL_law 530 = .ok (.iload_n 3, 1) := by decide +kernel
theorem dL_law_531 : decode cL_law 531 = .ok (.iconst 4, 1) := by decide +kernel
theorem dL_law_532 : decode cL_law 532 = .ok (.iadd, 1) := by decide +kernel
theorem dL_law_533 : decode cL_law 533 = .ok (.iaload, 1) := by decide +kernel
theorem dL_law_534 : decode cL_law 534 = .ok (.aload_n 0, 1) := by decide +kernel
theorem dL_law_535 : decode cL_law 535 = .ok (.iload_n 3, 1) := by decide +kernel
theorem dL_law_536 : decode cL_law 536 = .ok (.iconst 5, 1) := by decide +kernel
theorem dL_law_537 : decode cL_law 537 = .ok (.iadd, 1) := by decide +kernel
theorem dL_law_538 : decode cL_law 538 = .ok (.iaload, 1) := by decide +kernel
theorem dL_law_539 : decode cL_law 539 = .ok (.invokevirtual 53, 3) := by decide +kernel
theorem dL_law_542 : decode cL_law 542 = .ok (.pop, 1) := by decide +kernel
theorem dL_law_543 : decode cL_law 543 = .ok (.goto 1207, 3) := by decide +kernel
theorem dL_law_546 : decode cL_law 546 = .ok (.aload_n 1, 1) := by decide +kernel
theorem dL_law_547 : decode cL_law 547 = .ok (.aload_n 0, 1) := by decide +kernel
theorem dL_law_548 : decode cL_law 548 = .ok (.iload_n 3, 1) := by decide +kernel
theorem dL_law_549 : decode cL_law 549 = .ok (.iconst 1, 1) := by decide +kernel
theorem dL_law_550 : decode cL_law 550 = .ok (.iadd, 1) := by decide +kernel
theorem dL_law_551 : decode cL_law 551 = .ok (.iaload, 1) := by decide +kernel
theorem dL_law_552 : decode cL_law 552 = .ok (.invokevirtual 54, 3) := by decide +kernel
theorem dL_law_555 : decode cL_law 555 = .ok (.pop, 1) := by decide +kernel
theorem dL_law_556 : decode cL_law 556 = .ok (.aload_n 2, 1) := by decide +kernel
theorem dL_law_557 : decode cL_law 557 = .ok (.aload_n 0, 1) := by decide +kernel
theorem dL_law_558 : decode cL_law 558 = .ok (.iload_n 3, 1) := by decide +kernel
theorem dL_law_559 : decode cL_law 559 = .ok (.iconst 1, 1) := by decide +kernel
theorem dL_law_560 : decode cL_law 560 = .ok (.iadd, 1) := by decide +kernel
theorem dL_law_561 : decode cL_law 561 = .ok (.iaload, 1) := by decide +kernel
theorem dL_law_562 : decode cL_law 562 = .ok (.invokevirtual 58, 3) := by decide +kernel
theorem dL_law_565 : decode cL_law 565 = .ok (.pop, 1) := by decide +kernel
theorem dL_law_566 : decode cL_law 566 = .ok (.goto 1184, 3) := by decide +kernel
theorem dL_law_569 : decode cL_law 569 = .ok (.aload_n 1, 1) := by decide +kernel
theorem dL_law_570 : decode cL_law 570 = .ok (.aload_n 0, 1) := by decide +kernel
theorem dL_law_571 : decode cL_law 571 = .ok (.iload_n 3, 1) := by decide +kernel
theorem dL_law_572 : decode cL_law 572 = .ok (.iconst 1, 1) := by decide +kernel
theorem dL_law_573 : decode cL_law 573 = .ok (.iadd, 1) := by decide +kernel
theorem dL_law_574 : decode cL_law 574 = .ok (.iaload, 1) := by decide +kernel
theorem dL_law_575 : decode cL_law 575 = .ok (.invokevirtual 59, 3) := by decide +kernel
theorem dL_law_578 : decode cL_law 578 = .ok (.pop, 1) := by decide +kernel
theorem dL_law_579 : decode cL_law 579 = .ok (.aload_n 2, 1) := by decide +kernel
theorem dL_law_580 : decode cL_law 580 = .ok (.aload_n 0, 1) := by decide +kernel
theorem dL_law_581 : decode cL_law 581 = .ok (.iload_n 3, 1) := by decide +kernel
theorem dL_law_582 : decode cL_law 582 = .ok (.iconst 1, 1) := by decide +kernel
theorem dL_law_583 : decode cL_law 583 = .ok (.iadd, 1) := by decide +kernel
theorem dL_law_584 : decode cL_law 584 = .ok (.iaload, 1) := by decide +kernel
theorem dL_law_585 : decode cL_law 585 = .ok (.invokevirtual 62, 3) := by decide +kernel
theorem dL_law_588 : decode cL_law 588 = .ok (.pop, 1) := by decide +kernel
theorem dL_law_589 : decode cL_law 589 = .ok (.goto 1161, 3) := by decide +kernel
theorem dL_law_592 : decode cL_law 592 = .ok (.aload_n 1, 1) := by decide +kernel
theorem dL_law_593 : decode cL_law 593 = .ok (.aload_n 0, 1) := by decide +kernel
theorem dL_law_594 : decode cL_law 594 = .ok (.iload_n 3, 1) := by decide +kernel
theorem dL_law_595 : decode cL_law 595 = .ok (.iconst 1, 1) := by decide +kernel
theorem dL_law_596 : decode cL_law 596 = .ok (.iadd, 1) := by decide +kernel
theorem dL_law_597 : decode cL_law 597 = .ok (.iaload, 1) := by decide +kernel
theorem dL_law_598 : decode cL_law 598 = .ok (.invokevirtual 63, 3) := by decide +kernel
theorem dL_law_601 : decode cL_law 601 = .ok (.pop, 1) := by decide +kernel
theorem dL_law_602 : decode cL_law 602 = .ok (.aload_n 2, 1) := by decide +kernel
theorem dL_law_603 : decode cL_law 603 = .ok (.aload_n 0, 1) := by decide +kernel
theorem dL_law_604 : decode cL_law 604 = .ok (.iload_n 3, 1) := by decide +kernel
theorem dL_law_605 : decode cL_law 605 = .ok (.iconst 1, 1) := by decide +kernel
theorem dL_law_606 : decode cL_law 606 = .ok (.iadd, 1) := by decide +kernel
theorem dL_law_607 : decode cL_law 607 = .ok (.iaload, 1) := by decide +kernel
theorem dL_law_608 : decode cL_law 608 = .ok (.invokevirtual 66, 3) := by decide +kernel
theorem dL_law_611 : decode cL_law 611 = .ok (.pop, 1) := by decide +kernel
theorem dL_law_612 : decode cL_law 612 = .ok (.goto 1138, 3) := by decide +kernel
theorem dL_law_615 : decode cL_law 615 = .ok (.aload_n 1, 1) := by decide +kernel
theorem dL_law_616 : decode cL_law 616 = .ok (.aload_n 0, 1) := by decide +kernel
theorem dL_law_617 : decode cL_law 617 = .ok (.iload_n 3, 1) := by decide +kernel
theorem dL_law_618 : decode cL_law 618 = .ok (.iconst 1, 1) := by decide +kernel
theorem dL_law_619 : decode cL_law 619 = .ok (.iadd, 1) := by decide +kernel
theorem dL_law_620 : decode cL_law 620 = .ok (.iaload, 1) := by decide +kernel
theorem dL_law_621 : decode cL_law 621 = .ok (.invokevirtual 67, 3) := by decide +kernel
theorem dL_law_624 : decode cL_law 624 = .ok (.pop, 1) := by decide +kernel
theorem dL_law_625 : decode cL_law 625 = .ok (.aload_n 2, 1) := by decide +kernel
theorem dL_law_626 : decode cL_law 626 = .ok (.aload_n 0, 1) := by decide +kernel
theorem dL_law_627 : decode cL_law 627 = .ok (.iload_n 3, 1) := by decide +kernel
theorem dL_law_628 : decode cL_law 628 = .ok (.iconst 1, 1) := by decide +kernel
theorem dL_law_629 : decode cL_law 629 = .ok (.iadd, 1) := by decide +kernel
theorem dL_law_630 : decode cL_law 630 = .ok (.iaload, 1) := by decide +kernel
theorem dL_law_631 : decode cL_law 631 = .ok (.invokevirtual 70, 3) := by decide +kernel
theorem dL_law_634 : decode cL_law 634 = .ok (.pop, 1) := by decide +kernel
theorem dL_law_635 : decode cL_law 635 = .ok (.goto 1115, 3) := by decide +kernel
theorem dL_law_638 : decode cL_law 638 = .ok (.aload_n 1, 1) := by decide +kernel
theorem dL_law_639 : decode cL_law 639 = .ok (.aload_n 0, 1) := by decide +kernel
theorem dL_law_640 : decode cL_law 640 = .ok (.iload_n 3, 1) := by decide +kernel
theorem dL_law_641 : decode cL_law 641 = .ok (.iconst 1, 1) := by decide +kernel
theorem dL_law_642 : decode cL_law 642 = .ok (.iadd, 1) := by decide +kernel
theorem dL_law_643 : decode cL_law 643 = .ok (.iaload, 1) := by decide +kernel
theorem dL_law_644 : decode cL_law 644 = .ok (.aload_n 0, 1) := by decide +kernel
theorem dL_law_645 : decode cL_law 645 = .ok (.iload_n 3, 1) := by decide +kernel
theorem dL_law_646 : decode cL_law 646 = .ok (.iconst 2, 1) := by decide +kernel
theorem dL_law_647 : decode cL_law 647 = .ok (.iadd, 1) := by decide +kernel
theorem dL_law_648 : decode cL_law 648 = .ok (.iaload, 1) := by decide +kernel
theorem dL_law_649 : decode cL_law 649 = .ok (.aload_n 0, 1) := by decide +kernel
theorem dL_law_650 : decode cL_law 650 = .ok (.iload_n 3, 1) := by decide +kernel
theorem dL_law_651 : decode cL_law 651 = .ok (.iconst 3, 1) := by decide +kernel
theorem dL_law_652 : decode cL_law 652 = .ok (.iadd, 1) := by decide +kernel
theorem dL_law_653 : decode cL_law 653 = .ok (.iaload, 1) := by decide +kernel
theorem dL_law_654 : decode cL_law 654 = .ok (.invokevirtual 71, 3) := by decide +kernel
theorem dL_law_657 : decode cL_law 657 = .ok (.pop, 1) := by decide +kernel
theorem dL_law_658 : decode cL_law 658 = .ok (.aload_n 2, 1) := by decide +kernel
theorem dL_law_659 : decode cL_law 659 = .ok (.aload_n 0, 1) := by decide +kernel
theorem dL_law_660 : decode cL_law 660 = .ok (.iload_n 3, 1) := by decide +kernel
theorem dL_law_661 : decode cL_law 661 = .ok (.iconst 1, 1) := by decide +kernel
theorem dL_law_662 : decode cL_law 662 = .ok (.iadd, 1) := by decide +kernel
theorem dL_law_663 : decode cL_law 663 = .ok (.iaload, 1) := by decide +kernel
theorem dL_law_664 : decode cL_law 664 = .ok (.aload_n 0, 1) := by decide +kernel
theorem dL_law_665 : decode cL_law 665 = .ok (.iload_n 3, 1) := by decide +kernel
theorem dL_law_666 : decode cL_law 666 = .ok (.iconst 2, 1) := by decide +kernel
theorem dL_law_667 : decode cL_law 667 = .ok (.iadd, 1) := by decide +kernel
theorem dL_law_668 : decode cL_law 668 = .ok (.iaload, 1) := by decide +kernel
theorem dL_law_669 : decode cL_law 669 = .ok (.aload_n 0, 1) := by decide +kernel
theorem dL_law_670 : decode cL_law 670 = .ok (.iload_n 3, 1) := by decide +kernel
theorem dL_law_671 : decode cL_law 671 = .ok (.iconst 3, 1) := by decide +kernel
theorem dL_law_672 : decode cL_law 672 = .ok (.iadd, 1) := by decide +kernel
theorem dL_law_673 : decode cL_law 673 = .ok (.iaload, 1) := by decide +kernel
theorem dL_law_674 : decode cL_law 674 = .ok (.invokevirtual 75, 3) := by decide +kernel
theorem dL_law_677 : decode cL_law 677 = .ok (.pop, 1) := by decide +kernel
theorem dL_law_678 : decode cL_law 678 = .ok (.goto 1072, 3) := by decide +kernel
theorem dL_law_681 : decode cL_law 681 = .ok (.aload_n 1, 1) := by decide +kernel
theorem dL_law_682 : decode cL_law 682 = .ok (.aload_n 0, 1) := by decide +kernel
theorem dL_law_683 : decode cL_law 683 = .ok (.iload_n 3, 1) := by decide +kernel
theorem dL_law_684 : decode cL_law 684 = .ok (.iconst 1, 1) := by decide +kernel
theorem dL_law_685 : decode cL_law 685 = .ok (.iadd, 1) := by decide +kernel
theorem dL_law_686 : decode cL_law 686 = .ok (.iaload, 1) := by decide +kernel
theorem dL_law_687 : decode cL_law 687 = .ok (.aload_n 0, 1) := by decide +kernel
theorem dL_law_688 : decode cL_law 688 = .ok (.iload_n 3, 1) := by decide +kernel
theorem dL_law_689 : decode cL_law 689 = .ok (.iconst 2, 1) := by decide +kernel
theorem dL_law_690 : decode cL_law 690 = .ok (.iadd, 1) := by decide +kernel
theorem dL_law_691 : decode cL_law 691 = .ok (.iaload, 1) := by decide +kernel
theorem dL_law_692 : decode cL_law 692 = .ok (.aload_n 0, 1) := by decide +kernel
theorem dL_law_693 : decode cL_law 693 = .ok (.iload_n 3, 1) := by decide +kernel
theorem dL_law_694 : decode cL_law 694 = .ok (.iconst 3, 1) := by decide +kernel
theorem dL_law_695 : decode cL_law 695 = .ok (.iadd, 1) := by decide +kernel
theorem dL_law_696 : decode cL_law 696 = .ok (.iaload, 1) := by decide +kernel
theorem dL_law_697 : decode cL_law 697 = .ok (.invokevirtual 76, 3) := by decide +kernel
theorem dL_law_700 : decode cL_law 700 = .ok (.pop, 1) := by decide +kernel
theorem dL_law_701 : decode cL_law 701 = .ok (.aload_n 2, 1) := by decide +kernel
theorem dL_law_702 : decode cL_law 702 = .ok (.aload_n 0, 1) := by decide +kernel
theorem dL_law_703 : decode cL_law 703 = .ok (.iload_n 3, 1) := by decide +kernel
theorem dL_law_704 : decode cL_law 704 = .ok (.iconst 1, 1) := by decide +kernel
theorem dL_law_705 : decode cL_law 705 = .ok (.iadd, 1) := by decide +kernel
theorem dL_law_706 : decode cL_law 706 = .ok (.iaload, 1) := by decide +kernel
theorem dL_law_707 : decode cL_law 707 = .ok (.aload_n 0, 1) := by decide +kernel
theorem dL_law_708 : decode cL_law 708 = .ok (.iload_n 3, 1) := by decide +kernel
theorem dL_law_709 : decode cL_law 709 = .ok (.iconst 2, 1) := by decide +kernel
theorem dL_law_710 : decode cL_law 710 = .ok (.iadd, 1) := by decide +kernel
theorem dL_law_711 : decode cL_law 711 = .ok (.iaload, 1) := by decide +kernel
theorem dL_law_712 : decode cL_law 712 = .ok (.aload_n 0, 1) := by decide +kernel
theorem dL_law_713 : decode cL_law 713 = .ok (.iload_n 3, 1) := by decide +kernel
theorem dL_law_714 : decode cL_law 714 = .ok (.iconst 3, 1) := by decide +kernel
theorem dL_law_715 : decode cL_law 715 = .ok (.iadd, 1) := by decide +kernel
theorem dL_law_716 : decode cL_law 716 = .ok (.iaload, 1) := by decide +kernel
theorem dL_law_717 : decode cL_law 717 = .ok (.invokevirtual 79, 3) := by decide +kernel
theorem dL_law_720 : decode cL_law 720 = .ok (.pop, 1) := by decide +kernel
theorem dL_law_721 : decode cL_law 721 = .ok (.goto 1029, 3) := by decide +kernel
theorem dL_law_724 : decode cL_law 724 = .ok (.aload_n 1, 1) := by decide +kernel
theorem dL_law_725 : decode cL_law 725 = .ok (.aload_n 0, 1) := by decide +kernel
theorem dL_law_726 : decode cL_law 726 = .ok (.iload_n 3, 1) := by decide +kernel
theorem dL_law_727 : decode cL_law 727 = .ok (.iconst 1, 1) := by decide +kernel
theorem dL_law_728 : decode cL_law 728 = .ok (.iadd, 1) := by decide +kernel
theorem dL_law_729 : decode cL_law 729 = .ok (.iaload, 1) := by decide +kernel
theorem dL_law_730 : decode cL_law 730 = .ok (.aload_n 0, 1) := by decide +kernel
theorem dL_law_731 : decode cL_law 731 = .ok (.iload_n 3, 1) := by decide +kernel
theorem dL_law_732 : decode cL_law 732 = .ok (.iconst 2, 1) := by decide +kernel
theorem dL_law_733 : decode cL_law 733 = .ok (.iadd, 1) := by decide +kernel
theorem dL_law_734 : decode cL_law 734 = .ok (.iaload, 1) := by decide +kernel
theorem dL_law_735 : decode cL_law 735 = .ok (.aload_n 0, 1) := by decide +kernel
theorem dL_law_736 : decode cL_law 736 = .ok (.iload_n 3, 1) := by decide +kernel
theorem dL_law_737 : decode cL_law 737 = .ok (.iconst 3, 1) := by decide +kernel
theorem dL_law_738 : decode cL_law 738 = .ok (.iadd, 1) := by decide +kernel
theorem dL_law_739 : decode cL_law 739 = .ok (.iaload, 1) := by decide +kernel
theorem dL_law_740 : decode cL_law 740 = .ok (.invokevirtual 80, 3) := by decide +kernel
theorem dL_law_743 : decode cL_law 743 = .ok (.pop, 1) := by decide +kernel
theorem dL_law_744 : decode cL_law 744 = .ok (.aload_n 2, 1) := by decide +kernel
theorem dL_law_745 : decode cL_law 745 = .ok (.aload_n 0, 1) := by decide +kernel
theorem dL_law_746 : decode cL_law 746 = .ok (.iload_n 3, 1) := by decide +kernel
theorem dL_law_747 : decode cL_law 747 = .ok (.iconst 1, 1) := by decide +kernel
theorem dL_law_748 : decode cL_law 748 = .ok (.iadd, 1) := by decide +kernel
theorem dL_law_749 : decode cL_law 749 = .ok (.iaload, 1) := by decide +kernel
theorem dL_law_750 : decode cL_law 750 = .ok (.aload_n 0, 1) := by decide +kernel
theorem dL_law_751 : decode cL_law 751 = .ok (.iload_n 3, 1) := by decide +kernel
theorem dL_law_752 : decode cL_law 752 = .ok (.iconst 2, 1) := by decide +kernel
theorem dL_law_753 : decode cL_law 753 = .ok (.iadd, 1) := by decide +kernel
theorem dL_law_754 : decode cL_law 754 = .ok (.iaload, 1) := by decide +kernel
theorem dL_law_755 : decode cL_law 755 = .ok (.aload_n 0, 1) := by decide +kernel
theorem dL_law_756 : decode cL_law 756 = .ok (.iload_n 3, 1) := by decide +kernel
theorem dL_law_757 : decode cL_law 757 = .ok (.iconst 3, 1) := by decide +kernel
theorem dL_law_758 : decode cL_law 758 = .ok (.iadd, 1) := by decide +kernel
theorem dL_law_759 : decode cL_law 759 = .ok (.iaload, 1) := by decide +kernel
theorem dL_law_760 : decode cL_law 760 = .ok (.invokevirtual 83, 3) := by decide +kernel
theorem dL_law_763 : decode cL_law 763 = .ok (.pop, 1) := by decide +kernel
theorem dL_law_764 : decode cL_law 764 = .ok (.goto 986, 3) := by decide +kernel
theorem dL_law_767 : decode cL_law 767 = .ok (.aload_n 1, 1) := by decide +kernel
theorem dL_law_768 : decode cL_law 768 = .ok (.aload_n 0, 1) := by decide +kernel
theorem dL_law_769 : decode cL_law 769 = .ok (.iload_n 3, 1) := by decide +kernel
theorem dL_law_770 : decode cL_law 770 = .ok (.iconst 1, 1) := by decide +kernel
theorem dL_law_771 : decode cL_law 771 = .ok (.iadd, 1) := by decide +kernel
theorem dL_law_772 : decode cL_law 772 = .ok (.iaload, 1) := by decide +kernel
theorem dL_law_773 : decode cL_law 773 = .ok (.aload_n 0, 1) := by decide +kernel
theorem dL_law_774 : decode cL_law 774 = .ok (.iload_n 3, 1) := by decide +kernel
theorem dL_law_775 : decode cL_law 775 = .ok (.iconst 2, 1) := by decide +kernel
theorem dL_law_776 : decode cL_law 776 = .ok (.iadd, 1) := by decide +kernel
theorem dL_law_777 : decode cL_law 777 = .ok (.iaload, 1) := by decide +kernel
theorem dL_law_778 : decode cL_law 778 = .ok (.invokevirtual 84, 3) := by decide +kernel
theorem dL_law_781 : decode cL_law 781 = .ok (.pop, 1) := by decide +kernel
theorem dL_law_782 : decode cL_law 782 = .ok (.aload_n 2, 1) := by decide +kernel
theorem dL_law_783 : decode cL_law 783 = .ok (.aload_n 0, 1) := by decide +kernel
theorem dL_law_784 : decode cL_law 784 = .ok (.iload_n 3, 1) := by decide +kernel
theorem dL_law_785 : decode cL_law 785 = .ok (.iconst 1, 1) := by decide +kernel
theorem dL_law_786 : decode cL_law 786 = .ok (.iadd, 1) := by decide +kernel
theorem dL_law_787 : decode cL_law 787 = .ok (.iaload, 1) := by decide +kernel
theorem dL_law_788 : decode cL_law 788 = .ok (.aload_n 0, 1) := by decide +kernel
theorem dL_law_789 : decode cL_law 789 = .ok (.iload_n 3, 1) := by decide +kernel
theorem dL_law_790 : decode cL_law 790 = .ok (.iconst 2, 1) := by decide +kernel
theorem dL_law_791 : decode cL_law 791 = .ok (.iadd, 1) := by decide +kernel
theorem dL_law_792 : decode cL_law 792 = .ok (.iaload, 1) := by decide +kernel
theorem dL_law_793 : decode cL_law 793 = .ok (.invokevirtual 88, 3) := by decide +kernel
theorem dL_law_796 : decode cL_law 796 = .ok (.pop, 1) := by decide +kernel
theorem dL_law_797 : decode cL_law 797 = .ok (.goto 953, 3) := by decide +kernel
theorem dL_law_800 : decode cL_law 800 = .ok (.aload_n 1, 1) := by decide +kernel
theorem dL_law_801 : decode cL_law 801 = .ok (.aload_n 0, 1) := by decide +kernel
theorem dL_law_802 : decode cL_law 802 = .ok (.iload_n 3, 1) := by decide +kernel
theorem dL_law_803 : decode cL_law 803 = .ok (.iconst 1, 1) := by decide +kernel
theorem dL_law_804 : decode cL_law 804 = .ok (.iadd, 1) := by decide +kernel
theorem dL_law_805 : decode cL_law 805 = .ok (.iaload, 1) := by decide +kernel
theorem dL_law_806 : decode cL_law 806 = .ok (.aload_n 0, 1) := by decide +kernel
theorem dL_law_807 : decode cL_law 807 = .ok (.iload_n 3, 1) := by decide +kernel
theorem dL_law_808 : decode cL_law 808 = .ok (.iconst 2, 1) := by decide +kernel
theorem dL_law_809 : decode cL_law 809 = .ok (.iadd, 1) := by decide +kernel
theorem dL_law_810 : decode cL_law 810 = .ok (.iaload, 1) := by decide +kernel
theorem dL_law_811 : decode cL_law 811 = .ok (.aload_n 0, 1) := by decide +kernel
theorem dL_law_812 : decode cL_law 812 = .ok (.iload_n 3, 1) := by decide +kernel
theorem dL_law_813 : decode cL_law 813 = .ok (.iconst 3, 1) := by decide +kernel
theorem dL_law_814 : decode cL_law 814 = .ok (.iadd, 1) := by decide +kernel
theorem dL_law_815 : decode cL_law 815 = .ok (.iaload, 1) := by decide +kernel
theorem dL_law_816 : decode cL_law 816 = .ok (.invokevirtual 89, 3) := by decide +kernel
theorem dL_law_819 : decode cL_law 819 = .ok (.pop, 1) := by decide +kernel
theorem dL_law_820 : decode cL_law 820 = .ok (.aload_n 2, 1) := by decide +kernel
theorem dL_law_821 : decode cL_law 821 = .ok (.aload_n 0, 1) := by decide +kernel
theorem dL_law_822 : decode cL_law 822 = .ok (.iload_n 3, 1) := by decide +kernel
theorem dL_law_823 : decode cL_law 823 = .ok (.iconst 1, 1) := by decide +kernel
theorem dL_law_824 : decode cL_law 824 = .ok (.iadd, 1) := by decide +kernel
theorem dL_law_825 : decode cL_law 825 = .ok (.iaload, 1) := by decide +kernel
theorem dL_law_826 : decode cL_law 826 = .ok (.aload_n 0, 1) := by decide +kernel
theorem dL_law_827 : decode cL_law 827 = .ok (.iload_n 3, 1) := by decide +kernel
theorem dL_law_828 : decode cL_law 828 = .ok (.iconst 2, 1) := by decide +kernel
theorem dL_law_829 : decode cL_law 829 = .ok (.iadd, 1) := by decide +kernel
theorem dL_law_830 : decode cL_law 830 = .ok (.iaload, 1) := by decide +kernel
theorem dL_law_831 : decode cL_law 831 = .ok (.aload_n 0, 1) := by decide +kernel
theorem dL_law_832 : decode cL_law 832 = .ok (.iload_n 3, 1) := by decide +kernel
theorem dL_law_833 : decode cL_law 833 = .ok (.iconst 3, 1) := by decide +kernel
theorem dL_law_834 : decode cL_law 834 = .ok (.iadd, 1) := by decide +kernel
theorem dL_law_835 : decode cL_law 835 = .ok (.iaload, 1) := by decide +kernel
theorem dL_law_836 : decode cL_law 836 = .ok (.invokevirtual 92, 3) := by decide +kernel
theorem dL_law_839 : decode cL_law 839 = .ok (.pop, 1) := by decide +kernel
theorem dL_law_840 : decode cL_law 840 = .ok (.goto 910, 3) := by decide +kernel
theorem dL_law_843 : decode cL_law 843 = .ok (.aload_n 1, 1) := by decide +kernel
theorem dL_law_844 : decode cL_law 844 = .ok (.aload_n 0, 1) := by decide +kernel
theorem dL_law_845 : decode cL_law 845 = .ok (.iload_n 3, 1) := by decide +kernel
theorem dL_law_846 : decode cL_law 846 = .ok (.iconst 1, 1) := by decide +kernel
theorem dL_law_847 : decode cL_law 847 = .ok (.iadd, 1) := by decide +kernel
theorem dL_law_848 : decode cL_law 848 = .ok (.iaload, 1) := by decide +kernel
theorem dL_law_849 : decode cL_law 849 = .ok (.aload_n 0, 1) := by decide +kernel
theorem dL_law_850 : decode cL_law 850 = .ok (.iload_n 3, 1) := by decide +kernel
theorem dL_law_851 : decode cL_law 851 = .ok (.iconst 2, 1) := by decide +kernel
theorem dL_law_852 : decode cL_law 852 = .ok (.iadd, 1) := by decide +kernel
theorem dL_law_853 : decode cL_law 853 = .ok (.iaload, 1) := by decide +kernel
theorem dL_law_854 : decode cL_law 854 = .ok (.aload_n 0, 1) := by decide +kernel
theorem dL_law_855 : decode cL_law 855 = .ok (.iload_n 3, 1) := by decide +kernel
theorem dL_law_856 : decode cL_law 856 = .ok (.iconst 3, 1) := by decide +kernel
theorem dL_law_857 : decode cL_law 857 = .ok (.iadd, 1) := by decide +kernel
theorem dL_law_858 : decode cL_law 858 = .ok (.iaload, 1) := by decide +kernel
theorem dL_law_859 : decode cL_law 859 = .ok (.invokevirtual 93, 3) := by decide +kernel
theorem dL_law_862 : decode cL_law 862 = .ok (.pop, 1) := by decide +kernel
theorem dL_law_863 : decode cL_law 863 = .ok (.aload_n 2, 1) := by decide +kernel
theorem dL_law_864 : decode cL_law 864 = .ok (.aload_n 0, 1) := by decide +kernel
theorem dL_law_865 : decode cL_law 865 = .ok (.iload_n 3, 1) := by decide +kernel
theorem dL_law_866 : decode cL_law 866 = .ok (.iconst 1, 1) := by decide +kernel
theorem dL_law_867 : decode cL_law 867 = .ok (.iadd, 1) := by decide +kernel
theorem dL_law_868 : decode cL_law 868 = .ok (.iaload, 1) := by decide +kernel
theorem dL_law_869 : decode cL_law 869 = .ok (.aload_n 0, 1) := by decide +kernel
theorem dL_law_870 : decode cL_law 870 = .ok (.iload_n 3, 1) := by decide +kernel
theorem dL_law_871 : decode cL_law 871 = .ok (.iconst 2, 1) := by decide +kernel
theorem dL_law_872 : decode cL_law 872 = .ok (.iadd, 1) := by decide +kernel
theorem dL_law_873 : decode cL_law 873 = .ok (.iaload, 1) := by decide +kernel
theorem dL_law_874 : decode cL_law 874 = .ok (.aload_n 0, 1) := by decide +kernel
theorem dL_law_875 : decode cL_law 875 = .ok (.iload_n 3, 1) := by decide +kernel
theorem dL_law_876 : decode cL_law 876 = .ok (.iconst 3, 1) := by decide +kernel
theorem dL_law_877 : decode cL_law 877 = .ok (.iadd, 1) := by decide +kernel
theorem dL_law_878 : decode cL_law 878 = .ok (.iaload, 1) := by decide +kernel
theorem dL_law_879 : decode cL_law 879 = .ok (.invokevirtual 96, 3) := by decide +kernel
theorem dL_law_882 : decode cL_law 882 = .ok (.pop, 1) := by decide +kernel
theorem dL_law_883 : decode cL_law 883 = .ok (.goto 867, 3) := by decide +kernel
theorem dL_law_886 : decode cL_law 886 = .ok (.aload_n 1, 1) := by decide +kernel
theorem dL_law_887 : decode cL_law 887 = .ok (.aload_n 0, 1) := by decide +kernel
theorem dL_law_888 : decode cL_law 888 = .ok (.iload_n 3, 1) := by decide +kernel
theorem dL_law_889 : decode cL_law 889 = .ok (.iconst 1, 1) := by decide +kernel
theorem dL_law_890 : decode cL_law 890 = .ok (.iadd, 1) := by decide +kernel
theorem dL_law_891 : decode cL_law 891 = .ok (.iaload, 1) := by decide +kernel
theorem dL_law_892 : decode cL_law 892 = .ok (.aload_n 0, 1) := by decide +kernel
theorem dL_law_893 : decode cL_law 893 = .ok (.iload_n 3, 1) := by decide +kernel
theorem dL_law_894 : decode cL_law 894 = .ok (.iconst 2, 1) := by decide +kernel
theorem dL_law_895 : decode cL_law 895 = .ok (.iadd, 1) := by decide +kernel
theorem dL_law_896 : decode cL_law 896 = .ok (.iaload, 1) := by decide +kernel
theorem dL_law_897 : decode cL_law 897 = .ok (.aload_n 0, 1) := by decide +kernel
theorem dL_law_898 : decode cL_law 898 = .ok (.iload_n 3, 1) := by decide +kernel
theorem dL_law_899 : decode cL_law 899 = .ok (.iconst 3, 1) := by decide +kernel
theorem dL_law_900 : decode cL_law 900 = .ok (.iadd, 1) := by decide +kernel
theorem dL_law_901 : decode cL_law 901 = .ok (.iaload, 1) := by decide +kernel
theorem dL_law_902 : decode cL_law 902 = .ok (.invokevirtual 97, 3) := by decide +kernel
theorem dL_law_905 : decode cL_law 905 = .ok (.pop, 1) := by decide +kernel
theorem dL_law_906 : decode cL_law 906 = .ok (.aload_n 2, 1) := by decide +kernel
theorem dL_law_907 : decode cL_law 907 = .ok (.aload_n 0, 1) := by decide +kernel
theorem dL_law_908 : decode cL_law 908 = .ok (.iload_n 3, 1) := by decide +kernel
theorem dL_law_909 : decode cL_law 909 = .ok (.iconst 1, 1) := by decide +kernel
theorem dL_law_910 : decode cL_law 910 = .ok (.iadd, 1) := by decide +kernel
theorem dL_law_911 : decode cL_law 911 = .ok (.iaload, 1) := by decide +kernel
theorem dL_law_912 : decode cL_law 912 = .ok (.aload_n 0, 1) := by decide +kernel
theorem dL_law_913 : decode cL_law 913 = .ok (.iload_n 3, 1) := by decide +kernel
theorem dL_law_914 : decode cL_law 914 = .ok (.iconst 2, 1) := by decide +kernel
theorem dL_law_915 : decode cL_law 915 = .ok (.iadd, 1) := by decide +kernel
theorem dL_law_916 : decode cL_law 916 = .ok (.iaload, 1) := by decide +kernel
theorem dL_law_917 : decode cL_law 917 = .ok (.aload_n 0, 1) := by decide +kernel
theorem dL_law_918 : decode cL_law 918 = .ok (.iload_n 3, 1) := by decide +kernel
theorem dL_law_919 : decode cL_law 919 = .ok (.iconst 3, 1) := by decide +kernel
theorem dL_law_920 : decode cL_law 920 = .ok (.iadd, 1) := by decide +kernel
theorem dL_law_921 : decode cL_law 921 = .ok (.iaload, 1) := by decide +kernel
theorem dL_law_922 : decode cL_law 922 = .ok (.invokevirtual 100, 3) := by decide +kernel
theorem dL_law_925 : decode cL_law 925 = .ok (.pop, 1) := by decide +kernel
theorem dL_law_926 : decode cL_law 926 = .ok (.goto 824, 3) := by decide +kernel
theorem dL_law_929 : decode cL_law 929 = .ok (.aload_n 1, 1) := by decide +kernel
theorem dL_law_930 : decode cL_law 930 = .ok (.aload_n 0, 1) := by decide +kernel
theorem dL_law_931 : decode cL_law 931 = .ok (.iload_n 3, 1) := by decide +kernel
theorem dL_law_932 : decode cL_law 932 = .ok (.iconst 1, 1) := by decide +kernel
theorem dL_law_933 : decode cL_law 933 = .ok (.iadd, 1) := by decide +kernel
theorem dL_law_934 : decode cL_law 934 = .ok (.iaload, 1) := by decide +kernel
theorem dL_law_935 : decode cL_law 935 = .ok (.aload_n 0, 1) := by decide +kernel
theorem dL_law_936 : decode cL_law 936 = .ok (.iload_n 3, 1) := by decide +kernel
theorem dL_law_937 : decode cL_law 937 = .ok (.iconst 2, 1) := by decide +kernel
theorem dL_law_938 : decode cL_law 938 = .ok (.iadd, 1) := by decide +kernel
theorem dL_law_939 : decode cL_law 939 = .ok (.iaload, 1) := by decide +kernel
theorem dL_law_940 : decode cL_law 940 = .ok (.aload_n 0, 1) := by decide +kernel
theorem dL_law_941 : decode cL_law 941 = .ok (.iload_n 3, 1) := by decide +kernel
theorem dL_law_942 : decode cL_law 942 = .ok (.iconst 3, 1) := by decide +kernel
theorem dL_law_943 : decode cL_law 943 = .ok (.iadd, 1) := by decide +kernel
theorem dL_law_944 : decode cL_law 944 = .ok (.iaload, 1) := by decide +kernel
theorem dL_law_945 : decode cL_law 945 = .ok (.invokevirtual 101, 3) := by decide +kernel
theorem dL_law_948 : decode cL_law 948 = .ok (.pop, 1) := by decide +kernel
theorem dL_law_949 : decode cL_law 949 = .ok (.aload_n 2, 1) := by decide +kernel
theorem dL_law_950 : decode cL_law 950 = .ok (.aload_n 0, 1) := by decide +kernel
theorem dL_law_951 : decode cL_law 951 = .ok (.iload_n 3, 1) := by decide +kernel
theorem dL_law_952 : decode cL_law 952 = .ok (.iconst 1, 1) := by decide +kernel
theorem dL_law_953 : decode cL_law 953 = .ok (.iadd, 1) := by decide +kernel
theorem dL_law_954 : decode cL_law 954 = .ok (.iaload, 1) := by decide +kernel
theorem dL_law_955 : decode cL_law 955 = .ok (.aload_n 0, 1) := by decide +kernel
theorem dL_law_956 : decode cL_law 956 = .ok (.iload_n 3, 1) := by decide +kernel
theorem dL_law_957 : decode cL_law 957 = .ok (.iconst 2, 1) := by decide +kernel
theorem dL_law_958 : decode cL_law 958 = .ok (.iadd, 1) := by decide +kernel
theorem dL_law_959 : decode cL_law 959 = .ok (.iaload, 1) := by decide +kernel
theorem dL_law_960 : decode cL_law 960 = .ok (.aload_n 0, 1) := by decide +kernel
theorem dL_law_961 : decode cL_law 961 = .ok (.iload_n 3, 1) := by decide +kernel
theorem dL_law_962 : decode cL_law 962 = .ok (.iconst 3, 1) := by decide +kernel
theorem dL_law_963 : decode cL_law 963 = .ok (.iadd, 1) := by decide +kernel
theorem dL_law_964 : decode cL_law 964 = .ok (.iaload, 1) := by decide +kernel
theorem dL_law_965 : decode cL_law 965 = .ok (.invokevirtual 104, 3) := by decide +kernel
theorem dL_law_968 : decode cL_law 968 = .ok (.pop, 1) := by decide +kernel
theorem dL_law_969 : decode cL_law 969 = .ok (.goto 781, 3) := by decide +kernel
theorem dL_law_972 : decode cL_law 972 = .ok (.aload_n 1, 1) := by decide +kernel
theorem dL_law_973 : decode cL_law 973 = .ok (.aload_n 0, 1) := by decide +kernel
theorem dL_law_974 : decode cL_law 974 = .ok (.iload_n 3, 1) := by decide +kernel
theorem dL_law_975 : decode cL_law 975 = .ok (.iconst 1, 1) := by decide +kernel
theorem dL_law_976 : decode cL_law 976 = .ok (.iadd, 1) := by decide +kernel
theorem dL_law_977 : decode cL_law 977 = .ok (.iaload, 1) := by decide +kernel
theorem dL_law_978 : decode cL_law 978 = .ok (.aload_n 0, 1) := by decide +kernel
theorem dL_law_979 : decode cL_law 979 = .ok (.iload_n 3, 1) := by decide +kernel
theorem dL_law_980 : decode cL_law 980 = .ok (.iconst 2, 1) := by decide +kernel
theorem dL_law_981 : decode cL_law 981 = .ok (.iadd, 1) := by decide +kernel
theorem dL_law_982 : decode cL_law 982 = .ok (.iaload, 1) := by decide +kernel
theorem dL_law_983 : decode cL_law 983 = .ok (.invokevirtual 105, 3) := by decide +kernel
theorem dL_law_986 : decode cL_law 986 = .ok (.pop, 1) := by decide +kernel
theorem dL_law_987 : decode cL_law 987 = .ok (.aload_n 2, 1) := by decide +kernel
theorem dL_law_988 : decode cL_law 988 = .ok (.aload_n 0, 1) := by decide +kernel
theorem dL_law_989 : decode cL_law 989 = .ok (.iload_n 3, 1) := by decide +kernel
theorem dL_law_990 : decode cL_law 990 = .ok (.iconst 1, 1) := by decide +kernel
theorem dL_law_991 : decode cL_law 991 = .ok (.iadd, 1) := by decide +kernel
theorem dL_law_992 : decode cL_law 992 = .ok (.iaload, 1) := by decide +kernel
theorem dL_law_993 : decode cL_law 993 = .ok (.aload_n 0, 1) := by decide +kernel
theorem dL_law_994 : decode cL_law 994 = .ok (.iload_n 3, 1) := by decide +kernel
theorem dL_law_995 : decode cL_law 995 = .ok (.iconst 2, 1) := by decide +kernel
theorem dL_law_996 : decode cL_law 996 = .ok (.iadd, 1) := by decide +kernel
theorem dL_law_997 : decode cL_law 997 = .ok (.iaload, 1) := by decide +kernel
theorem dL_law_998 : decode cL_law 998 = .ok (.invokevirtual 108, 3) := by decide +kernel
theorem dL_law_1001 : decode cL_law 1001 = .ok (.pop, 1) := by decide +kernel
theorem dL_law_1002 : decode cL_law 1002 = .ok (.goto 748, 3) := by decide +kernel
theorem dL_law_1005 : decode cL_law 1005 = .ok (.aload_n 1, 1) := by decide +kernel
theorem dL_law_1006 : decode cL_law 1006 = .ok (.aload_n 0, 1) := by decide +kernel
theorem dL_law_1007 : decode cL_law 1007 = .ok (.iload_n 3, 1) := by decide +kernel
theorem dL_law_1008 : decode cL_law 1008 = .ok (.iconst 1, 1) := by decide +kernel
theorem dL_law_1009 : decode cL_law 1009 = .ok (.iadd, 1) := by decide +kernel
theorem dL_law_1010 : decode cL_law 1010 = .ok (.iaload, 1) := by decide +kernel
theorem dL_law_1011 : decode cL_law 1011 = .ok (.aload_n 0, 1) := by decide +kernel
theorem dL_law_1012 : decode cL_law 1012 = .ok (.iload_n 3, 1) := by decide +kernel
theorem dL_law_1013 : decode cL_law 1013 = .ok (.iconst 2, 1) := by decide +kernel
theorem dL_law_1014 : decode cL_law 1014 = .ok (.iadd, 1) := by decide +kernel
theorem dL_law_1015 : decode cL_law 1015 = .ok (.iaload, 1) := by decide +kernel
theorem dL_law_1016 : decode cL_law 1016 = .ok (.invokevirtual 109, 3) := by decide +kernel
theorem dL_law_1019 : decode cL_law 1019 = .ok (.pop, 1) := by decide +kernel
theorem dL_law_1020 : decode cL_law 1020 = .ok (.aload_n 2, 1) := by decide +kernel
theorem dL_law_1021 : decode cL_law 1021 = .ok (.aload_n 0, 1) := by decide +kernel
theorem dL_law_1022 : decode cL_law 1022 = .ok (.iload_n 3, 1) := by decide +kernel
theorem dL_law_1023 : decode cL_law 1023 = .ok (.iconst 1, 1) := by decide +kernel
theorem dL_law_1024 : decode cL_law 1024 = .ok (.iadd, 1) := by decide +kernel
theorem dL_law_1025 : decode cL_law 1025 = .ok (.iaload, 1) := by decide +kernel
theorem dL_law_1026 : decode cL_law 1026 = .ok (.aload_n 0, 1) := by decide +kernel
theorem dL_law_1027 : decode cL_law 1027 = .ok (.iload_n 3, 1) := by decide +kernel
theorem dL_law_1028 : decode cL_law 1028 = .ok (.iconst 2, 1) := by decide +kernel
theorem dL_law_1029 : decode cL_law 1029 = .ok (.iadd, 1) := by decide +kernel
theorem dL_law_1030 : decode cL_law 1030 = .ok (.iaload, 1) := by decide +kernel
theorem dL_law_1031 : decode cL_law 1031 = .ok (.invokevirtual 112, 3) := by decide +kernel
theorem dL_law_1034 : decode cL_law 1034 = .ok (.pop, 1) := by decide +kernel
theorem dL_law_1035 : decode cL_law 1035 = .ok (.goto 715, 3) := by decide +kernel
theorem dL_law_1038 : decode cL_law 1038 = .ok (.aload_n 1, 1) := by decide +kernel
theorem dL_law_1039 : decode cL_law 1039 = .ok (.aload_n 0, 1) := by decide +kernel
theorem dL_law_1040 : decode cL_law 1040 = .ok (.iload_n 3, 1) := by decide +kernel
theorem dL_law_1041 : decode cL_law 1041 = .ok (.iconst 1, 1) := by decide +kernel
theorem dL_law_1042 : decode cL_law 1042 = .ok (.iadd, 1) := by decide +kernel
theorem dL_law_1043 : decode cL_law 1043 = .ok (.iaload, 1) := by decide +kernel
theorem dL_law_1044 : decode cL_law 1044 = .ok (.aload_n 0, 1) := by decide +kernel
theorem dL_law_1045 : decode cL_law 1045 = .ok (.iload_n 3, 1) := by decide +kernel
theorem dL_law_1046 : decode cL_law 1046 = .ok (.iconst 2, 1) := by decide +kernel
theorem dL_law_1047 : decode cL_law 1047 = .ok (.iadd, 1) := by decide +kernel
theorem dL_law_1048 : decode cL_law 1048 = .ok (.iaload, 1) := by decide +kernel
theorem dL_law_1049 : decode cL_law 1049 = .ok (.invokevirtual 113, 3) := by decide +kernel
theorem dL_law_1052 : decode cL_law 1052 = .ok (.pop, 1) := by decide +kernel
theorem dL_law_1053 : decode cL_law 1053 = .ok (.aload_n 2, 1) := by decide +kernel
theorem dL_law_1054 : decode cL_law 1054 = .ok (.aload_n 0, 1) := by decide +kernel
theorem dL_law_1055 : decode cL_law 1055 = .ok (.iload_n 3, 1) := by decide +kernel
theorem dL_law_1056 : decode cL_law 1056 = .ok (.iconst 1, 1) := by decide +kernel
theorem dL_law_1057 : decode cL_law 1057 = .ok (.iadd, 1) := by decide +kernel
theorem dL_law_1058 : decode cL_law 1058 = .ok (.iaload, 1) := by decide +kernel
theorem dL_law_1059 : decode cL_law 1059 = .ok (.aload_n 0, 1) := by decide +kernel
theorem dL_law_1060 : decode cL_law 1060 = .ok (.iload_n 3, 1) := by decide +kernel
theorem dL_law_1061 : decode cL_law 1061 = .ok (.iconst 2, 1) := by decide +kernel
theorem dL_law_1062 : decode cL_law 1062 = .ok (.iadd, 1) := by decide +kernel
theorem dL_law_1063 : decode cL_law 1063 = .ok (.iaload, 1) := by decide +kernel
theorem dL_law_1064 : decode cL_law 1064 = .ok (.invokevirtual 116, 3) := by decide +kernel
theorem dL_law_1067 : decode cL_law 1067 = .ok (.pop, 1) := by decide +kernel
theorem dL_law_1068 : decode cL_law 1068 = .ok (.goto 682, 3) := by decide +kernel
theorem dL_law_1071 : decode cL_law 1071 = .ok (.aload_n 1, 1) := by decide +kernel
theorem dL_law_1072 : decode cL_law 1072 = .ok (.aload_n 0, 1) := by decide +kernel
theorem dL_law_1073 : decode cL_law 1073 = .ok (.iload_n 3, 1) := by decide +kernel
theorem dL_law_1074 : decode cL_law 1074 = .ok (.iconst 1, 1) := by decide +kernel
theorem dL_law_1075 : decode cL_law 1075 = .ok (.iadd, 1) := by decide +kernel
theorem dL_law_1076 : decode cL_law 1076 = .ok (.iaload, 1) := by decide +kernel
theorem dL_law_1077 : decode cL_law 1077 = .ok (.invokevirtual 117, 3) := by decide +kernel
theorem dL_law_1080 : decode cL_law 1080 = .ok (.pop, 1) := by decide +kernel
theorem dL_law_1081 : decode cL_law 1081 = .ok (.aload_n 2, 1) := by decide +kernel
theorem dL_law_1082 : decode cL_law 1082 = .ok (.aload_n 0, 1) := by decide +kernel
theorem dL_law_1083 : decode cL_law 1083 = .ok (.iload_n 3, 1) := by decide +kernel
theorem dL_law_1084 : decode cL_law 1084 = .ok (.iconst 1, 1) := by decide +kernel
theorem dL_law_1085 : decode cL_law 1085 = .ok (.iadd, 1) := by decide +kernel
theorem dL_law_1086 : decode cL_law 1086 = .ok (.iaload, 1) := by decide +kernel
theorem dL_law_1087 : decode cL_law 1087 = .ok (.invokevirtual 120, 3) := by decide +kernel
theorem dL_law_1090 : decode cL_law 1090 = .ok (.pop, 1) := by decide +kernel
theorem dL_law_1091 : decode cL_law 1091 = .ok (.goto 659, 3) := by decide +kernel
theorem dL_law_1094 : decode cL_law 1094 = .ok (.aload_n 1, 1) := by decide +kernel
theorem dL_law_1095 : decode cL_law 1095 = .ok (.aload_n 0, 1) := by decide +kernel
theorem dL_law_1096 : decode cL_law 1096 = .ok (.iload_n 3, 1) := by decide +kernel
theorem dL_law_1097 : decode cL_law 1097 = .ok (.iconst 1, 1) := by decide +kernel
theorem dL_law_1098 : decode cL_law 1098 = .ok (.iadd, 1) := by decide +kernel
theorem dL_law_1099 : decode cL_law 1099 = .ok (.iaload, 1) := by decide +kernel
theorem dL_law_1100 : decode cL_law 1100 = .ok (.invokevirtual 121, 3) := by decide +kernel
theorem dL_law_1103 : decode cL_law 1103 = .ok (.pop, 1) := by decide +kernel
theorem dL_law_1104 : decode cL_law 1104 = .ok (.aload_n 2, 1) := by decide +kernel
theorem dL_law_1105 : decode cL_law 1105 = .ok (.aload_n 0, 1) := by decide +kernel
theorem dL_law_1106 : decode cL_law 1106 = .ok (.iload_n 3, 1) := by decide +kernel
theorem dL_law_1107 : decode cL_law 1107 = .ok (.iconst 1, 1) := by decide +kernel
theorem dL_law_1108 : decode cL_law 1108 = .ok (.iadd, 1) := by decide +kernel
theorem dL_law_1109 : decode cL_law 1109 = .ok (.iaload, 1) := by decide +kernel
theorem dL_law_1110 : decode cL_law 1110 = .ok (.invokevirtual 124, 3) := by decide +kernel
theorem dL_law_1113 : decode cL_law 1113 = .ok (.pop, 1) := by decide +kernel
theorem dL_law_1114 : decode cL_law 1114 = .ok (.goto 636, 3) := by decide +kernel
theorem dL_law_1117 : decode cL_law 1117 = .ok (.aload_n 1, 1) := by decide +kernel
theorem dL_law_1118 : decode cL_law 1118 = .ok (.aload_n 0, 1) := by decide +kernel
theorem dL_law_1119 : decode cL_law 1119 = .ok (.iload_n 3, 1) := by decide +kernel
theorem dL_law_1120 : decode cL_law 1120 = .ok (.iconst 1, 1) := by decide +kernel
theorem dL_law_1121 : decode cL_law 1121 = .ok (.iadd, 1) := by decide +kernel
theorem dL_law_1122 : decode cL_law 1122 = .ok (.iaload, 1) := by decide +kernel
theorem dL_law_1123 : decode cL_law 1123 = .ok (.aload_n 0, 1) := by decide +kernel
theorem dL_law_1124 : decode cL_law 1124 = .ok (.iload_n 3, 1) := by decide +kernel
theorem dL_law_1125 : decode cL_law 1125 = .ok (.iconst 2, 1) := by decide +kernel
theorem dL_law_1126 : decode cL_law 1126 = .ok (.iadd, 1) := by decide +kernel
theorem dL_law_1127 : decode cL_law 1127 = .ok (.iaload, 1) := by decide +kernel
theorem dL_law_1128 : decode cL_law 1128 = .ok (.invokevirtual 125, 3) := by decide +kernel
theorem dL_law_1131 : decode cL_law 1131 = .ok (.pop, 1) := by decide +kernel
theorem dL_law_1132 : decode cL_law 1132 = .ok (.aload_n 2, 1) := by decide +kernel
theorem dL_law_1133 : decode cL_law 1133 = .ok (.aload_n 0, 1) := by decide +kernel
theorem dL_law_1134 : decode cL_law 1134 = .ok (.iload_n 3, 1) := by decide +kernel
theorem dL_law_1135 : decode cL_law 1135 = .ok (.iconst 1, 1) := by decide +kernel
theorem dL_law_1136 : decode cL_law 1136 = .ok (.iadd, 1) := by decide +kernel
theorem dL_law_1137 : decode cL_law 1137 = .ok (.iaload, 1) := by decide +kernel
theorem dL_law_1138 : decode cL_law 1138 = .ok (.aload_n 0, 1) := by decide +kernel
theorem dL_law_1139 : decode cL_law 1139 = .ok (.iload_n 3, 1) := by decide +kernel
theorem dL_law_1140 : decode cL_law 1140 = .ok (.iconst 2, 1) := by decide +kernel
theorem dL_law_1141 : decode cL_law 1141 = .ok (.iadd, 1) := by decide +kernel
theorem dL_law_1142 : decode cL_law 1142 = .ok (.iaload, 1) := by decide +kernel
theorem dL_law_1143 : decode cL_law 1143 = .ok (.invokevirtual 128, 3) := by decide +kernel
theorem dL_law_1146 : decode cL_law 1146 = .ok (.pop, 1) := by decide +kernel
theorem dL_law_1147 : decode cL_law 1147 = .ok (.goto 603, 3) := by decide +kernel
theorem dL_law_1150 : decode cL_law 1150 = .ok (.aload_n 1, 1) := by decide +kernel
theorem dL_law_1151 : decode cL_law 1151 = .ok (.aload_n 0, 1) := by decide +kernel
theorem dL_law_1152 : decode cL_law 1152 = .ok (.iload_n 3, 1) := by decide +kernel
theorem dL_law_1153 : decode cL_law 1153 = .ok (.iconst 1, 1) := by decide +kernel
theorem dL_law_1154 : decode cL_law 1154 = .ok (.iadd, 1) := by decide +kernel
theorem dL_law_1155 : decode cL_law 1155 = .ok (.iaload, 1) := by decide +kernel
theorem dL_law_1156 : decode cL_law 1156 = .ok (.invokevirtual 129, 3) := by decide +kernel
theorem dL_law_1159 : decode cL_law 1159 = .ok (.pop, 1) := by decide +kernel
theorem dL_law_1160 : decode cL_law 1160 = .ok (.aload_n 2, 1) := by decide +kernel
theorem dL_law_1161 : decode cL_law 1161 = .ok (.aload_n 0, 1) := by decide +kernel
theorem dL_law_1162 : decode cL_law 1162 = .ok (.iload_n 3, 1) := by decide +kernel
theorem dL_law_1163 : decode cL_law 1163 = .ok (.iconst 1, 1) := by decide +kernel
theorem dL_law_1164 : decode cL_law 1164 = .ok (.iadd, 1) := by decide +kernel
theorem dL_law_1165 : decode cL_law 1165 = .ok (.iaload, 1) := by decide +kernel
theorem dL_law_1166 : decode cL_law 1166 = .ok (.invokevirtual 132, 3) := by decide +kernel
theorem dL_law_1169 : decode cL_law 1169 = .ok (.pop, 1) := by decide +kernel
theorem dL_law_1170 : decode cL_law 1170 = .ok (.goto 580, 3) := by decide +kernel
theorem dL_law_1173 : decode cL_law 1173 = .ok (.aload_n 1, 1) := by decide +kernel
theorem dL_law_1174 : decode cL_law 1174 = .ok (.invokevirtual 133, 3) := by decide +kernel
theorem dL_law_1177 : decode cL_law 1177 = .ok (.pop, 1) := by decide +kernel
theorem dL_law_1178 : decode cL_law 1178 = .ok (.aload_n 2, 1) := by decide +kernel
theorem dL_law_1179 : decode cL_law 1179 = .ok (.invokevirtual 136, 3) := by decide +kernel
theorem dL_law_1182 : decode cL_law 1182 = .ok (.pop, 1) := by decide +kernel
theorem dL_law_1183 : decode cL_law 1183 = .ok (.goto 567, 3) := by decide +kernel
theorem dL_law_1186 : decode cL_law 1186 = .ok (.aload_n 1, 1) := by decide +kernel
theorem dL_law_1187 : decode cL_law 1187 = .ok (.aload_n 0, 1) := by decide +kernel
theorem dL_law_1188 : decode cL_law 1188 = .ok (.iload_n 3, 1) := by decide +kernel
theorem dL_law_1189 : decode cL_law 1189 = .ok (.iconst 1, 1) := by decide +kernel
theorem dL_law_1190 : decode cL_law 1190 = .ok (.iadd, 1) := by decide +kernel
theorem dL_law_1191 : decode cL_law 1191 = .ok (.iaload, 1) := by decide +kernel
theorem dL_law_1192 : decode cL_law 1192 = .ok (.invokevirtual 137, 3) := by decide +kernel
theorem dL_law_1195 : decode cL_law 1195 = .ok (.pop, 1) := by decide +kernel
theorem dL_law_1196 : decode cL_law 1196 = .ok (.aload_n 2, 1) := by decide +kernel
theorem dL_law_1197 : decode cL_law 1197 = .ok (.aload_n 0, 1) := by decide +kernel
theorem dL_law_1198 : decode cL_law 1198 = .ok (.iload_n 3, 1) := by decide +kernel
theorem dL_law_1199 : decode cL_law 1199 = .ok (.iconst 1, 1) := by decide +kernel
theorem dL_law_1200 : decode cL_law 1200 = .ok (.iadd, 1) := by decide +kernel
theorem dL_law_1201 : decode cL_law 1201 = .ok (.iaload, 1) := by decide +kernel
theorem dL_law_1202 : decode cL_law 1202 = .ok (.invokevirtual 140, 3) := by decide +kernel
theorem dL_law_1205 : decode cL_law 1205 = .ok (.pop, 1) := by decide +kernel
theorem dL_law_1206 : decode cL_law 1206 = .ok (.goto 544, 3) := by decide +kernel
theorem dL_law_1209 : decode cL_law 1209 = .ok (.aload_n 1, 1) := by decide +kernel
theorem dL_law_1210 : decode cL_law 1210 = .ok (.aload_n 0, 1) := by decide +kernel
theorem dL_law_1211 : decode cL_law 1211 = .ok (.iload_n 3, 1) := by decide +kernel
theorem dL_law_1212 : decode cL_law 1212 = .ok (.iconst 1, 1) := by decide +kernel
theorem dL_law_1213 : decode cL_law 1213 = .ok (.iadd, 1) := by decide +kernel
theorem dL_law_1214 : decode cL_law 1214 = .ok (.iaload, 1) := by decide +kernel
theorem dL_law_1215 : decode cL_law 1215 = .ok (.invokevirtual 141, 3) := by decide +kernel
theorem dL_law_1218 : decode cL_law 1218 = .ok (.pop, 1) := by decide +kernel
theorem dL_law_1219 : decode cL_law 1219 = .ok (.aload_n 2, 1) := by decide +kernel
theorem dL_law_1220 : decode cL_law 1220 = .ok (.aload_n 0, 1) := by decide +kernel
theorem dL_law_1221 : decode cL_law 1221 = .ok (.iload_n 3, 1) := by decide +kernel
theorem dL_law_1222 : decode cL_law 1222 = .ok (.iconst 1, 1) := by decide +kernel
theorem dL_law_1223 : decode cL_law 1223 = .ok (.iadd, 1) := by decide +kernel
theorem dL_law_1224 : decode cL_law 1224 = .ok (.iaload, 1) := by decide +kernel
theorem dL_law_1225 : decode cL_law 1225 = .ok (.invokevirtual 144, 3) := by decide +kernel
theorem dL_law_1228 : decode cL_law 1228 = .ok (.pop, 1) := by decide +kernel
theorem dL_law_1229 : decode cL_law 1229 = .ok (.goto 521, 3) := by decide +kernel
theorem dL_law_1232 : decode cL_law 1232 = .ok (.aload_n 1, 1) := by decide +kernel
theorem dL_law_1233 : decode cL_law 1233 = .ok (.aload_n 0, 1) := by decide +kernel
theorem dL_law_1234 : decode cL_law 1234 = .ok (.iload_n 3, 1) := by decide +kernel
theorem dL_law_1235 : decode cL_law 1235 = .ok (.iconst 1, 1) := by decide +kernel
theorem dL_law_1236 : decode cL_law 1236 = .ok (.iadd, 1) := by decide +kernel
theorem dL_law_1237 : decode cL_law 1237 = .ok (.iaload, 1) := by decide +kernel
theorem dL_law_1238 : decode cL_law 1238 = .ok (.aload_n 0, 1) := by decide +kernel
theorem dL_law_1239 : decode cL_law 1239 = .ok (.iload_n 3, 1) := by decide +kernel
theorem dL_law_1240 : decode cL_law 1240 = .ok (.iconst 2, 1) := by decide +kernel
theorem dL_law_1241 : decode cL_law 1241 = .ok (.iadd, 1) := by decide +kernel
theorem dL_law_1242 : decode cL_law 1242 = .ok (.iaload, 1) := by decide +kernel
theorem dL_law_1243 : decode cL_law 1243 = .ok (.invokevirtual 145, 3) := by decide +kernel
theorem dL_law_1246 : decode cL_law 1246 = .ok (.pop, 1) := by decide +kernel
theorem dL_law_1247 : decode cL_law 1247 = .ok (.aload_n 2, 1) := by decide +kernel
theorem dL_law_1248 : decode cL_law 1248 = .ok (.aload_n 0, 1) := by decide +kernel
theorem dL_law_1249 : decode cL_law 1249 = .ok (.iload_n 3, 1) := by decide +kernel
theorem dL_law_1250 : decode cL_law 1250 = .ok (.iconst 1, 1) := by decide +kernel
theorem dL_law_1251 : decode cL_law 1251 = .ok (.iadd, 1) := by decide +kernel
theorem dL_law_1252 : decode cL_law 1252 = .ok (.iaload, 1) := by decide +kernel
theorem dL_law_1253 : decode cL_law 1253 = .ok (.aload_n 0, 1) := by decide +kernel
theorem dL_law_1254 : decode cL_law 1254 = .ok (.iload_n 3, 1) := by decide +kernel
theorem dL_law_1255 : decode cL_law 1255 = .ok (.iconst 2, 1) := by decide +kernel
theorem dL_law_1256 : decode cL_law 1256 = .ok (.iadd, 1) := by decide +kernel
theorem dL_law_1257 : decode cL_law 1257 = .ok (.iaload, 1) := by decide +kernel
theorem dL_law_1258 : decode cL_law 1258 = .ok (.invokevirtual 149, 3) := by decide +kernel
theorem dL_law_1261 : decode cL_law 1261 = .ok (.pop, 1) := by decide +kernel
theorem dL_law_1262 : decode cL_law 1262 = .ok (.goto 488, 3) := by decide +kernel
theorem dL_law_1265 : decode cL_law 1265 = .ok (.aload_n 1, 1) := by decide +kernel
theorem dL_law_1266 : decode cL_law 1266 = .ok (.invokevirtual 150, 3) := by decide +kernel
theorem dL_law_1269 : decode cL_law 1269 = .ok (.pop, 1) := by decide +kernel
theorem dL_law_1270 : decode cL_law 1270 = .ok (.aload_n 2, 1) := by decide +kernel
theorem dL_law_1271 : decode cL_law 1271 = .ok (.invokevirtual 153, 3) := by decide +kernel
theorem dL_law_1274 : decode cL_law 1274 = .ok (.pop, 1) := by decide +kernel
theorem dL_law_1275 : decode cL_law 1275 = .ok (.goto 475, 3) := by decide +kernel
theorem dL_law_1278 : decode cL_law 1278 = .ok (.aload_n 1, 1) := by decide +kernel
theorem dL_law_1279 : decode cL_law 1279 = .ok (.aload_n 0, 1) := by decide +kernel
theorem dL_law_1280 : decode cL_law 1280 = .ok (.iload_n 3, 1) := by decide +kernel
theorem dL_law_1281 : decode cL_law 1281 = .ok (.iconst 1, 1) := by decide +kernel
theorem dL_law_1282 : decode cL_law 1282 = .ok (.iadd, 1) := by decide +kernel
theorem dL_law_1283 : decode cL_law 1283 = .ok (.iaload, 1) := by decide +kernel
theorem dL_law_1284 : decode cL_law 1284 = .ok (.aload_n 0, 1) := by decide +kernel
theorem dL_law_1285 : decode cL_law 1285 = .ok (.iload_n 3, 1) := by decide +kernel
theorem dL_law_1286 : decode cL_law 1286 = .ok (.iconst 2, 1) := by decide +kernel
theorem dL_law_1287 : decode cL_law 1287 = .ok (.iadd, 1) := by decide +kernel
theorem dL_law_1288 : decode cL_law 1288 = .ok (.iaload, 1) := by decide +kernel
theorem dL_law_1289 : decode cL_law 1289 = .ok (.invokevirtual 154, 3) := by decide +kernel
theorem dL_law_1292 : decode cL_law 1292 = .ok (.pop, 1) := by decide +kernel
theorem dL_law_1293 : decode cL_law 1293 = .ok (.aload_n 2, 1) := by decide +kernel
theorem dL_law_1294 : decode cL_law 1294 = .ok (.aload_n 0, 1) := by decide +kernel
theorem dL_law_1295 : decode cL_law 1295 = .ok (.iload_n 3, 1) := by decide +kernel
theorem dL_law_1296 : decode cL_law 1296 = .ok (.iconst 1, 1) := by decide +kernel
theorem dL_law_1297 : decode cL_law 1297 = .ok (.iadd, 1) := by decide +kernel
theorem dL_law_1298 : decode cL_law 1298 = .ok (.iaload, 1) := by decide +kernel
theorem dL_law_1299 : decode cL_law 1299 = .ok (.aload_n 0, 1) := by decide +kernel
theorem dL_law_1300 : decode cL_law 1300 = .ok (.iload_n 3, 1) := by decide +kernel
theorem dL_law_1301 : decode cL_law 1301 = .ok (.iconst 2, 1) := by decide +kernel
theorem dL_law_1302 : decode cL_law 1302 = .ok (.iadd, 1) := by decide +kernel
theorem dL_law_1303 : decode cL_law 1303 = .ok (.iaload, 1) := by decide +kernel
theorem dL_law_1304 : decode cL_law 1304 = .ok (.invokevirtual 157, 3) := by decide +kernel
theorem dL_law_1307 : decode cL_law 1307 = .ok (.pop, 1) := by decide +kernel
theorem dL_law_1308 : decode cL_law 1308 = .ok (.goto 442, 3) := by decide +kernel
theorem dL_law_1311 : decode cL_law 1311 = .ok (.aload_n 1, 1) := by decide +kernel
theorem dL_law_1312 : decode cL_law 1312 = .ok (.aload_n 0, 1) := by decide +kernel
theorem dL_law_1313 : decode cL_law 1313 = .ok (.iload_n 3, 1) := by decide +kernel
theorem dL_law_1314 : decode cL_law 1314 = .ok (.iconst 1, 1) := by decide +kernel
theorem dL_law_1315 : decode cL_law 1315 = .ok (.iadd, 1) := by decide +kernel
theorem dL_law_1316 : decode cL_law 1316 = .ok (.iaload, 1) := by decide +kernel
theorem dL_law_1317 : decode cL_law 1317 = .ok (.aload_n 0, 1) := by decide +kernel
theorem dL_law_1318 : decode cL_law 1318 = .ok (.iload_n 3, 1) := by decide +kernel
theorem dL_law_1319 : decode cL_law 1319 = .ok (.iconst 2, 1) := by decide +kernel
theorem dL_law_1320 : decode cL_law 1320 = .ok (.iadd, 1) := by decide +kernel
theorem dL_law_1321 : decode cL_law 1321 = .ok (.iaload, 1) := by decide +kernel
theorem dL_law_1322 : decode cL_law 1322 = .ok (.aload_n 0, 1) := by decide +kernel
theorem dL_law_1323 : decode cL_law 1323 = .ok (.iload_n 3, 1) := by decide +kernel
theorem dL_law_1324 : decode cL_law 1324 = .ok (.iconst 3, 1) := by decide +kernel
theorem dL_law_1325 : decode cL_law 1325 = .ok (.iadd, 1) := by decide +kernel
theorem dL_law_1326 : decode cL_law 1326 = .ok (.iaload, 1) := by decide +kernel
theorem dL_law_1327 : decode cL_law 1327 = .ok (.invokevirtual 158, 3) := by decide +kernel
theorem dL_law_1330 : decode cL_law 1330 = .ok (.pop, 1) := by decide +kernel
theorem dL_law_1331 : decode cL_law 1331 = .ok (.aload_n 2, 1) := by decide +kernel
theorem dL_law_1332 : decode cL_law 1332 = .ok (.aload_n 0, 1) := by decide +kernel
theorem dL_law_1333 : decode cL_law 1333 = .ok (.iload_n 3, 1) := by decide +kernel
theorem dL_law_1334 : decode cL_law 1334 = .ok (.iconst 1, 1) := by decide +kernel
theorem dL_law_1335 : decode cL_law 1335 = .ok (.iadd, 1) := by decide +kernel
theorem dL_law_1336 : decode cL_law 1336 = .ok (.iaload, 1) := by decide +kernel
theorem dL_law_1337 : decode cL_law 1337 = .ok (.aload_n 0, 1) := by decide +kernel
theorem dL_law_1338 : decode cL_law 1338 = .ok (.iload_n 3, 1) := by decide +kernel
theorem dL_law_1339 : decode cL_law 1339 = .ok (.iconst 2, 1) := by decide +kernel
theorem dL_law_1340 : decode cL_law 1340 = .ok (.iadd, 1) := by decide +kernel
theorem dL_law_1341 : decode cL_law 1341 = .ok (.iaload, 1) := by decide +kernel
theorem dL_law_1342 : decode cL_law 1342 = .ok (.aload_n 0, 1) := by decide +kernel
theorem dL_law_1343 : decode cL_law 1343 = .ok (.iload_n 3, 1) := by decide +kernel
theorem dL_law_1344 : decode cL_law 1344 = .ok (.iconst 3, 1) := by decide +kernel
theorem dL_law_1345 : decode cL_law 1345 = .ok (.iadd, 1) := by decide +kernel
theorem dL_law_1346 : decode cL_law 1346 = .ok (.iaload, 1) := by decide +kernel
theorem dL_law_1347 : decode cL_law 1347 = .ok (.invokevirtual 161, 3) := by decide +kernel
theorem dL_law_1350 : decode cL_law 1350 = .ok (.pop, 1) := by decide +kernel
theorem dL_law_1351 : decode cL_law 1351 = .ok (.goto 399, 3) := by decide +kernel
theorem dL_law_1354 : decode cL_law 1354 = .ok (.aload_n 1, 1) := by decide +kernel
theorem dL_law_1355 : decode cL_law 1355 = .ok (.aload_n 0, 1) := by decide +kernel
theorem dL_law_1356 : decode cL_law 1356 = .ok (.iload_n 3, 1) := by decide +kernel
theorem dL_law_1357 : decode cL_law 1357 = .ok (.iconst 1, 1) := by decide +kernel
theorem dL_law_1358 : decode cL_law 1358 = .ok (.iadd, 1) := by decide +kernel
theorem dL_law_1359 : decode cL_law 1359 = .ok (.iaload, 1) := by decide +kernel
theorem dL_law_1360 : decode cL_law 1360 = .ok (.invokevirtual 162, 3) := by decide +kernel
theorem dL_law_1363 : decode cL_law 1363 = .ok (.pop, 1) := by decide +kernel
theorem dL_law_1364 : decode cL_law 1364 = .ok (.aload_n 2, 1) := by decide +kernel
theorem dL_law_1365 : decode cL_law 1365 = .ok (.aload_n 0, 1) := by decide +kernel
theorem dL_law_1366 : decode cL_law 1366 = .ok (.iload_n 3, 1) := by decide +kernel
theorem dL_law_1367 : decode cL_law 1367 = .ok (.iconst 1, 1) := by decide +kernel
theorem dL_law_1368 : decode cL_law 1368 = .ok (.iadd, 1) := by decide +kernel
theorem dL_law_1369 : decode cL_law 1369 = .ok (.iaload, 1) := by decide +kernel
theorem dL_law_1370 : decode cL_law 1370 = .ok (.invokevirtual 165, 3) := by decide +kernel
theorem dL_law_1373 : decode cL_law 1373 = .ok (.pop, 1) := by decide +kernel
theorem dL_law_1374 : decode cL_law 1374 = .ok (.goto 376, 3) := by decide +kernel
theorem dL_law_1377 : decode cL_law 1377 = .ok (.aload_n 1, 1) := by decide +kernel
theorem dL_law_1378 : decode cL_law 1378 = .ok (.aload_n 0, 1) := by decide +kernel
theorem dL_law_1379 : decode cL_law 1379 = .ok (.iload_n 3, 1) := by decide +kernel
theorem dL_law_1380 : decode cL_law 1380 = .ok (.iconst 1, 1) := by decide +kernel
theorem dL_law_1381 : decode cL_law 1381 = .ok (.iadd, 1) := by decide +kernel
theorem dL_law_1382 : decode cL_law 1382 = .ok (.iaload, 1) := by decide +kernel
theorem dL_law_1383 : decode cL_law 1383 = .ok (.aload_n 0, 1) := by decide +kernel
theorem dL_law_1384 : decode cL_law 1384 = .ok (.iload_n 3, 1) := by decide +kernel
theorem dL_law_1385 : decode cL_law 1385 = .ok (.iconst 2, 1) := by decide +kernel
theorem dL_law_1386 : decode cL_law 1386 = .ok (.iadd, 1) := by decide +kernel
theorem dL_law_1387 : decode cL_law 1387 = .ok (.iaload, 1) := by decide +kernel
theorem dL_law_1388 : decode cL_law 1388 = .ok (.aload_n 0, 1) := by decide +kernel
theorem dL_law_1389 : decode cL_law 1389 = .ok (.iload_n 3, 1) := by decide +kernel
theorem dL_law_1390 : decode cL_law 1390 = .ok (.iconst 3, 1) := by decide +kernel
theorem dL_law_1391 : decode cL_law 1391 = .ok (.iadd, 1) := by decide +kernel
theorem dL_law_1392 : decode cL_law 1392 = .ok (.iaload, 1) := by decide +kernel
theorem dL_law_1393 : decode cL_law 1393 = .ok (.invokevirtual 166, 3) := by decide +kernel
theorem dL_law_1396 : decode cL_law 1396 = .ok (.pop, 1) := by decide +kernel
theorem dL_law_1397 : decode cL_law 1397 = .ok (.aload_n 2, 1) := by decide +kernel
theorem dL_law_1398 : decode cL_law 1398 = .ok (.aload_n 0, 1) := by decide +kernel
theorem dL_law_1399 : decode cL_law 1399 = .ok (.iload_n 3, 1) := by decide +kernel
theorem dL_law_1400 : decode cL_law 1400 = .ok (.iconst 1, 1) := by decide +kernel
theorem dL_law_1401 : decode cL_law 1401 = .ok (.iadd, 1) := by decide +kernel
theorem dL_law_1402 : decode cL_law 1402 = .ok (.iaload, 1) := by decide +kernel
theorem dL_law_1403 : decode cL_law 1403 = .ok (.aload_n 0, 1) := by decide +kernel
theorem dL_law_1404 : decode cL_law 1404 = .ok (.iload_n 3, 1) := by decide +kernel
theorem dL_law_1405 : decode cL_law 1405 = .ok (.iconst 2, 1) := by decide +kernel
theorem dL_law_1406 : decode cL_law 1406 = .ok (.iadd, 1) := by decide +kernel
theorem dL_law_1407 : decode cL_law 1407 = .ok (.iaload, 1) := by decide +kernel
theorem dL_law_1408 : decode cL_law 1408 = .ok (.aload_n 0, 1) := by decide +kernel
theorem dL_law_1409 : decode cL_law 1409 = .ok (.iload_n 3, 1) := by decide +kernel
theorem dL_law_1410 : decode cL_law 1410 = .ok (.iconst 3, 1) := by decide +kernel
theorem dL_law_1411 : decode cL_law 1411 = .ok (.iadd, 1) := by decide +kernel
theorem dL_law_1412 : decode cL_law 1412 = .ok (.iaload, 1) := by decide +kernel
theorem dL_law_1413 : decode cL_law 1413 = .ok (.invokevirtual 169, 3) := by decide +kernel
theorem dL_law_1416 : decode cL_law 1416 = .ok (.pop, 1) := by decide +kernel
theorem dL_law_1417 : decode cL_law 1417 = .ok (.goto 333, 3) := by decide +kernel
theorem dL_law_1420 : decode cL_law 1420 = .ok (.aload_n 1, 1) := by decide +kernel
theorem dL_law_1421 : decode cL_law 1421 = .ok (.aload_n 0, 1) := by decide +kernel
theorem dL_law_1422 : decode cL_law 1422 = .ok (.iload_n 3, 1) := by decide +kernel
theorem dL_law_1423 : decode cL_law 1423 = .ok (.iconst 1, 1) := by decide +kernel
theorem dL_law_1424 : decode cL_law 1424 = .ok (.iadd, 1) := by decide +kernel
theorem dL_law_1425 : decode cL_law 1425 = .ok (.iaload, 1) := by decide +kernel
theorem dL_law_1426 : decode cL_law 1426 = .ok (.aload_n 0, 1) := by decide +kernel
theorem dL_law_1427 : decode cL_law 1427 = .ok (.iload_n 3, 1) := by decide +kernel
theorem dL_law_1428 : decode cL_law 1428 = .ok (.iconst 2, 1) := by decide +kernel
theorem dL_law_1429 : decode cL_law 1429 = .ok (.iadd, 1) := by decide +kernel
theorem dL_law_1430 : decode cL_law 1430 = .ok (.iaload, 1) := by decide +kernel
theorem dL_law_1431 : decode cL_law 1431 = .ok (.invokevirtual 170, 3) := by decide +kernel
theorem dL_law_1434 : decode cL_law 1434 = .ok (.pop, 1) := by decide +kernel
theorem dL_law_1435 : decode cL_law 1435 = .ok (.aload_n 2, 1) := by decide +kernel
theorem dL_law_1436 : decode cL_law 1436 = .ok (.aload_n 0, 1) := by decide +kernel
theorem dL_law_1437 : decode cL_law 1437 = .ok (.iload_n 3, 1) := by decide +kernel
theorem dL_law_1438 : decode cL_law 1438 = .ok (.iconst 1, 1) := by decide +kernel
theorem dL_law_1439 : decode cL_law 1439 = .ok (.iadd, 1) := by decide +kernel
theorem dL_law_1440 : decode cL_law 1440 = .ok (.iaload, 1) := by decide +kernel
theorem dL_law_1441 : decode cL_law 1441 = .ok (.aload_n 0, 1) := by decide +kernel
theorem dL_law_1442 : decode cL_law 1442 = .ok (.iload_n 3, 1) := by decide +kernel
theorem dL_law_1443 : decode cL_law 1443 = .ok (.iconst 2, 1) := by decide +kernel
theorem dL_law_1444 : decode cL_law 1444 = .ok (.iadd, 1) := by decide +kernel
theorem dL_law_1445 : decode cL_law 1445 = .ok (.iaload, 1) := by decide +kernel
theorem dL_law_1446 : decode cL_law 1446 = .ok (.invokevirtual 173, 3) := by decide +kernel
theorem dL_law_1449 : decode cL_law 1449 = .ok (.pop, 1) := by decide +kernel
theorem dL_law_1450 : decode cL_law 1450 = .ok (.goto 300, 3) := by decide +kernel
theorem dL_law_1453 : decode cL_law 1453 = .ok (.aload_n 1, 1) := by decide +kernel
theorem dL_law_1454 : decode cL_law 1454 = .ok (.aload_n 0, 1) := by decide +kernel
theorem dL_law_1455 : decode cL_law 1455 = .ok (.iload_n 3, 1) := by decide +kernel
theorem dL_law_1456 : decode cL_law 1456 = .ok (.iconst 1, 1) := by decide +kernel
theorem dL_law_1457 : decode cL_law 1457 = .ok (.iadd, 1) := by decide +kernel
theorem dL_law_1458 : decode cL_law 1458 = .ok (.iaload, 1) := by decide +kernel
theorem dL_law_1459 : decode cL_law 1459 = .ok (.aload_n 0, 1) := by decide +kernel
theorem dL_law_1460 : decode cL_law 1460 = .ok (.iload_n 3, 1) := by decide +kernel
theorem dL_law_1461 : decode cL_law 1461 = .ok (.iconst 2, 1) := by decide +kernel
theorem dL_law_1462 : decode cL_law 1462 = .ok (.iadd, 1) := by decide +kernel
theorem dL_law_1463 : decode cL_law 1463 = .ok (.iaload, 1) := by decide +kernel
theorem dL_law_1464 : decode cL_law 1464 = .ok (.invokevirtual 174, 3) := by decide +kernel
theorem dL_law_1467 : decode cL_law 1467 = .ok (.pop2, 1) := by decide +kernel
theorem dL_law_1468 : decode cL_law 1468 = .ok (.aload_n 2, 1) := by decide +kernel
theorem dL_law_1469 : decode cL_law 1469 = .ok (.aload_n 0, 1) := by decide +kernel
theorem dL_law_1470 : decode cL_law 1470 = .ok (.iload_n 3, 1) := by decide +kernel
theorem dL_law_1471 : decode cL_law 1471 = .ok (.iconst 1, 1) := by decide +kernel
theorem dL_law_1472 : decode cL_law 1472 = .ok (.iadd, 1) := by decide +kernel
theorem dL_law_1473 : decode cL_law 1473 = .ok (.iaload, 1) := by decide +kernel
theorem dL_law_1474 : decode cL_law 1474 = .ok (.aload_n 0, 1) := by decide +kernel
theorem dL_law_1475 : decode cL_law 1475 = .ok (.iload_n 3, 1) := by decide +kernel
theorem dL_law_1476 : decode cL_law 1476 = .ok (.iconst 2, 1) := by decide +kernel
theorem dL_law_1477 : decode cL_law 1477 = .ok (.iadd, 1) := by decide +kernel
theorem dL_law_1478 : decode cL_law 1478 = .ok (.iaload, 1) := by decide +kernel
theorem dL_law_1479 : decode cL_law 1479 = .ok (.invokevirtual 177, 3) := by decide +kernel
theorem dL_law_1482 : decode cL_law 1482 = .ok (.pop2, 1) := by decide +kernel
theorem dL_law_1483 : decode cL_law 1483 = .ok (.goto 267, 3) := by decide +kernel
theorem dL_law_1486 : decode cL_law 1486 = .ok (.aload_n 1, 1) := by decide +kernel
theorem dL_law_1487 : decode cL_law 1487 = .ok (.aload_n 0, 1) := by decide +kernel
theorem dL_law_1488 : decode cL_law 1488 = .ok (.iload_n 3, 1) := by decide +kernel
theorem dL_law_1489 : decode cL_law 1489 = .ok (.iconst 1, 1) := by decide +kernel
theorem dL_law_1490 : decode cL_law 1490 = .ok (.iadd, 1) := by decide +kernel
theorem dL_law_1491 : decode cL_law 1491 = .ok (.iaload, 1) := by decide +kernel
theorem dL_law_1492 : decode cL_law 1492 = .ok (.aload_n 0, 1) := by decide +kernel
theorem dL_law_1493 : decode cL_law 1493 = .ok (.iload_n 3, 1) := by decide +kernel
theorem dL_law_1494 : decode cL_law 1494 = .ok (.iconst 2, 1) := by decide +kernel
theorem dL_law_1495 : decode cL_law 1495 = .ok (.iadd, 1) := by decide +kernel
theorem dL_law_1496 : decode cL_law 1496 = .ok (.iaload, 1) := by decide +kernel
theorem dL_law_1497 : decode cL_law 1497 = .ok (.aload_n 0, 1) := by decide +kernel
theorem dL_law_1498 : decode cL_law 1498 = .ok (.iload_n 3, 1) := by decide +kernel
theorem dL_law_1499 : decode cL_law 1499 = .ok (.iconst 3, 1) := by decide +kernel
theorem dL_law_1500 : decode cL_law 1500 = .ok (.iadd, 1) := by decide +kernel
theorem dL_law_1501 : decode cL_law 1501 = .ok (.iaload, 1) := by decide +kernel
theorem dL_law_1502 : decode cL_law 1502 = .ok (.invokevirtual 178, 3) := by decide +kernel
theorem dL_law_1505 : decode cL_law 1505 = .ok (.pop, 1) := by decide +kernel
theorem dL_law_1506 : decode cL_law 1506 = .ok (.aload_n 2, 1) := by decide +kernel
theorem dL_law_1507 : decode cL_law 1507 = .ok (.aload_n 0, 1) := by decide +kernel
theorem dL_law_1508 : decode cL_law 1508 = .ok (.iload_n 3, 1) := by decide +kernel
theorem dL_law_1509 : decode cL_law 1509 = .ok (.iconst 1, 1) := by decide +kernel
theorem dL_law_1510 : decode cL_law 1510 = .ok (.iadd, 1) := by decide +kernel
theorem dL_law_1511 : decode cL_law 1511 = .ok (.iaload, 1) := by decide +kernel
theorem dL_law_1512 : decode cL_law 1512 = .ok (.aload_n 0, 1) := by decide +kernel
theorem dL_law_1513 : decode cL_law 1513 = .ok (.iload_n 3, 1) := by decide +kernel
theorem dL_law_1514 : decode cL_law 1514 = .ok (.iconst 2, 1) := by decide +kernel
theorem dL_law_1515 : decode cL_law 1515 = .ok (.iadd, 1) := by decide +kernel
theorem dL_law_1516 : decode cL_law 1516 = .ok (.iaload, 1) := by decide +kernel
theorem dL_law_1517 : decode cL_law 1517 = .ok (.aload_n 0, 1) := by decide +kernel
theorem dL_law_1518 : decode cL_law 1518 = .ok (.iload_n 3, 1) := by decide +kernel
theorem dL_law_1519 : decode cL_law 1519 = .ok (.iconst 3, 1) := by decide +kernel
theorem dL_law_1520 : decode cL_law 1520 = .ok (.iadd, 1) := by decide +kernel
theorem dL_law_1521 : decode cL_law 1521 = .ok (.iaload, 1) := by decide +kernel
theorem dL_law_1522 : decode cL_law 1522 = .ok (.invokevirtual 181, 3) := by decide +kernel
theorem dL_law_1525 : decode cL_law 1525 = .ok (.pop, 1) := by decide +kernel
theorem dL_law_1526 : decode cL_law 1526 = .ok (.goto 224, 3) := by decide +kernel
theorem dL_law_1529 : decode cL_law 1529 = .ok (.aload_n 1, 1) := by decide +kernel
theorem dL_law_1530 : decode cL_law 1530 = .ok (.aload_n 0, 1) := by decide +kernel
theorem dL_law_1531 : decode cL_law 1531 = .ok (.iload_n 3, 1) := by decide +kernel
theorem dL_law_1532 : decode cL_law 1532 = .ok (.iconst 1, 1) := by decide +kernel
theorem dL_law_1533 : decode cL_law 1533 = .ok (.iadd, 1) := by decide +kernel
theorem dL_law_1534 : decode cL_law 1534 = .ok (.iaload, 1) := by decide +kernel
theorem dL_law_1535 : decode cL_law 1535 = .ok (.aload_n 0, 1) := by decide +kernel
theorem dL_law_1536 : decode cL_law 1536 = .ok (.iload_n 3, 1) := by decide +kernel
theorem dL_law_1537 : decode cL_law 1537 = .ok (.iconst 2, 1) := by decide +kernel
theorem dL_law_1538 : decode cL_law 1538 = .ok (.iadd, 1) := by decide +kernel
theorem dL_law_1539 : decode cL_law 1539 = .ok (.iaload, 1) := by decide +kernel
theorem dL_law_1540 : decode cL_law 1540 = .ok (.aload_n 0, 1) := by decide +kernel
theorem dL_law_1541 : decode cL_law 1541 = .ok (.iload_n 3, 1) := by decide +kernel
theorem dL_law_1542 : decode cL_law 1542 = .ok (.iconst 3, 1) := by decide +kernel
theorem dL_law_1543 : decode cL_law 1543 = .ok (.iadd, 1) := by decide +kernel
theorem dL_law_1544 : decode cL_law 1544 = .ok (.iaload, 1) := by decide +kernel
theorem dL_law_1545 : decode cL_law 1545 = .ok (.aload_n 0, 1) := by decide +kernel
theorem dL_law_1546 : decode cL_law 1546 = .ok (.iload_n 3, 1) := by decide +kernel
theorem dL_law_1547 : decode cL_law 1547 = .ok (.iconst 4, 1) := by decide +kernel
theorem dL_law_1548 : decode cL_law 1548 = .ok (.iadd, 1) := by decide +kernel
theorem dL_law_1549 : decode cL_law 1549 = .ok (.iaload, 1) := by decide +kernel
theorem dL_law_1550 : decode cL_law 1550 = .ok (.aload_n 0, 1) := by decide +kernel
theorem dL_law_1551 : decode cL_law 1551 = .ok (.iload_n 3, 1) := by decide +kernel
theorem dL_law_1552 : decode cL_law 1552 = .ok (.iconst 5, 1) := by decide +kernel
theorem dL_law_1553 : decode cL_law 1553 = .ok (.iadd, 1) := by decide +kernel
theorem dL_law_1554 : decode cL_law 1554 = .ok (.iaload, 1) := by decide +kernel
theorem dL_law_1555 : decode cL_law 1555 = .ok (.invokevirtual 182, 3) := by decide +kernel
theorem dL_law_1558 : decode cL_law 1558 = .ok (.pop, 1) := by decide +kernel
theorem dL_law_1559 : decode cL_law 1559 = .ok (.aload_n 2, 1) := by decide +kernel
theorem dL_law_1560 : decode cL_law 1560 = .ok (.aload_n 0, 1) := by decide +kernel
theorem dL_law_1561 : decode cL_law 1561 = .ok (.iload_n 3, 1) := by decide +kernel
theorem dL_law_1562 : decode cL_law 1562 = .ok (.iconst 1, 1) := by decide +kernel
theorem dL_law_1563 : decode cL_law 1563 = .ok (.iadd, 1) := by decide +kernel
theorem dL_law_1564 : decode cL_law 1564 = .ok (.iaload, 1) := by decide +kernel
theorem dL_law_1565 : decode cL_law 1565 = .ok (.aload_n 0, 1) := by decide +kernel
theorem dL_law_1566 : decode cL_law 1566 = .ok (.iload_n 3, 1) := by decide +kernel
theorem dL_law_1567 : decode cL_law 1567 = .ok (.iconst 2, 1) := by decide +kernel
theorem dL_law_1568 : decode cL_law 1568 = .ok (.iadd, 1) := by decide +kernel
theorem dL_law_1569 : decode cL_law 1569 = .ok (.iaload, 1) := by decide +kernel
theorem dL_law_1570 : decode cL_law 1570 = .ok (.aload_n 0, 1) := by decide +kernel
theorem dL_law_1571 : decode cL_law 1571 = .ok (.iload_n 3, 1) := by decide +kernel
theorem dL_law_1572 : decode cL_law 1572 = .ok (.iconst 3, 1) := by decide +kernel
theorem dL_law_1573 : decode cL_law 1573 = .ok (.iadd, 1) := by decide +kernel
theorem dL_law_1574 : decode cL_law 1574 = .ok (.iaload, 1) := by decide +kernel
theorem dL_law_1575 : decode cL_law 1575 = .ok (.aload_n 0, 1) := by decide +kernel
theorem dL_law_1576 : decode cL_law 1576 = .ok (.iload_n 3, 1) := by decide +kernel
theorem dL_law_1577 : decode cL_law 1577 = .ok (.iconst 4, 1) := by decide +kernel
theorem dL_law_1578 : decode cL_law 1578 = .ok (.iadd, 1) := by decide +kernel
theorem dL_law_1579 : decode cL_law 1579 = .ok (.iaload, 1) := by decide +kernel
theorem dL_law_1580 : decode cL_law 1580 = .ok (.aload_n 0, 1) := by decide +kernel
theorem dL_law_1581 : decode cL_law 1581 = .ok (.iload_n 3, 1) := by decide +kernel
theorem dL_law_1582 : decode cL_law 1582 = .ok (.iconst 5, 1) := by decide +kernel
theorem dL_law_1583 : decode cL_law 1583 = .ok (.iadd, 1) := by decide +kernel
theorem dL_law_1584 : decode cL_law 1584 = .ok (.iaload, 1) := by decide +kernel
theorem dL_law_1585 : decode cL_law 1585 = .ok (.invokevirtual 185, 3) := by decide +kernel
theorem dL_law_1588 : decode cL_law 1588 = .ok (.pop, 1) := by decide +kernel
theorem dL_law_1589 : decode cL_law 1589 = .ok (.goto 161, 3) := by decide +kernel
theorem dL_law_1592 : decode cL_law 1592 = .ok (.aload_n 1, 1) := by decide +kernel
theorem dL_law_1593 : decode cL_law 1593 = .ok (.aload_n 0, 1) := by decide +kernel
theorem dL_law_1594 : decode cL_law 1594 = .ok (.iload_n 3, 1) := by decide +kernel
theorem dL_law_1595 : decode cL_law 1595 = .ok (.iconst 1, 1) := by decide +kernel
theorem dL_law_1596 : decode cL_law 1596 = .ok (.iadd, 1) := by decide +kernel
theorem dL_law_1597 : decode cL_law 1597 = .ok (.iaload, 1) := by decide +kernel
theorem dL_law_1598 : decode cL_law 1598 = .ok (.aload_n 0, 1) := by decide +kernel
theorem dL_law_1599 : decode cL_law 1599 = .ok (.iload_n 3, 1) := by decide +kernel
theorem dL_law_1600 : decode cL_law 1600 = .ok (.iconst 2, 1) := by decide +kernel
theorem dL_law_1601 : decode cL_law 1601 = .ok (.iadd, 1) := by decide +kernel
theorem dL_law_1602 : decode cL_law 1602 = .ok (.iaload, 1) := by decide +kernel
theorem dL_law_1603 : decode cL_law 1603 = .ok (.aload_n 0, 1) := by decide +kernel
theorem dL_law_1604 : decode cL_law 1604 = .ok (.iload_n 3, 1) := by decide +kernel
theorem dL_law_1605 : decode cL_law 1605 = .ok (.iconst 3, 1) := by decide +kernel
theorem dL_law_1606 : decode cL_law 1606 = .ok (.iadd, 1) := by decide +kernel
theorem dL_law_1607 : decode cL_law 1607 = .ok (.iaload, 1) := by decide +kernel
theorem dL_law_1608 : decode cL_law 1608 = .ok (.invokevirtual 186, 3) := by decide +kernel
theorem dL_law_1611 : decode cL_law 1611 = .ok (.pop, 1) := by decide +kernel
theorem dL_law_1612 : decode cL_law 1612 = .ok (.aload_n 2, 1) := by decide +kernel
theorem dL_law_1613 : decode cL_law 1613 = .ok (.aload_n 0, 1) := by decide +kernel
theorem dL_law_1614 : decode cL_law 1614 = .ok (.iload_n 3, 1) := by decide +kernel
theorem dL_law_1615 : decode cL_law 1615 = .ok (.iconst 1, 1) := by decide +kernel
theorem dL_law_1616 : decode cL_law 1616 = .ok (.iadd, 1) := by decide +kernel
theorem dL_law_1617 : decode cL_law 1617 = .ok (.iaload, 1) := by decide +kernel
theorem dL_law_1618 : decode cL_law 1618 = .ok (.aload_n 0, 1) := by decide +kernel
theorem dL_law_1619 : decode cL_law 1619 = .ok (.iload_n 3, 1) := by decide +kernel
theorem dL_law_1620 : decode cL_law 1620 = .ok (.iconst 2, 1) := by decide +kernel
theorem dL_law_1621 : decode cL_law 1621 = .ok (.iadd, 1) := by decide +kernel
theorem dL_law_1622 : decode cL_law 1622 = .ok (.iaload, 1) := by decide +kernel
theorem dL_law_1623 : decode cL_law 1623 = .ok (.aload_n 0, 1) := by decide +kernel
theorem dL_law_1624 : decode cL_law 1624 = .ok (.iload_n 3, 1) := by decide +kernel
theorem dL_law_1625 : decode cL_law 1625 = .ok (.iconst 3, 1) := by decide +kernel
theorem dL_law_1626 : decode cL_law 1626 = .ok (.iadd, 1) := by decide +kernel
theorem dL_law_1627 : decode cL_law 1627 = .ok (.iaload, 1) := by decide +kernel
theorem dL_law_1628 : decode cL_law 1628 = .ok (.invokevirtual 189, 3) := by decide +kernel
theorem dL_law_1631 : decode cL_law 1631 = .ok (.pop, 1) := by decide +kernel
theorem dL_law_1632 : decode cL_law 1632 = .ok (.goto 118, 3) := by decide +kernel
theorem dL_law_1635 : decode cL_law 1635 = .ok (.aload_n 1, 1) := by decide +kernel
theorem dL_law_1636 : decode cL_law 1636 = .ok (.aload_n 0, 1) := by decide +kernel
theorem dL_law_1637 : decode cL_law 1637 = .ok (.iload_n 3, 1) := by decide +kernel
theorem dL_law_1638 : decode cL_law 1638 = .ok (.iconst 1, 1) := by decide +kernel
theorem dL_law_1639 : decode cL_law 1639 = .ok (.iadd, 1) := by decide +kernel
theorem dL_law_1640 : decode cL_law 1640 = .ok (.iaload, 1) := by decide +kernel
theorem dL_law_1641 : decode cL_law 1641 = .ok (.invokevirtual 190, 3) := by decide +kernel
theorem dL_law_1644 : decode cL_law 1644 = .ok (.pop, 1) := by decide +kernel
theorem dL_law_1645 : decode cL_law 1645 = .ok (.aload_n 2, 1) := by decide +kernel
theorem dL_law_1646 : decode cL_law 1646 = .ok (.aload_n 0, 1) := by decide +kernel
theorem dL_law_1647 : decode cL_law 1647 = .ok (.iload_n 3, 1) := by decide +kernel
theorem dL_law_1648 : decode cL_law 1648 = .ok (.iconst 1, 1) := by decide +kernel
theorem dL_law_1649 : decode cL_law 1649 = .ok (.iadd, 1) := by decide +kernel
theorem dL_law_1650 : decode cL_law 1650 = .ok (.iaload, 1) := by decide +kernel
theorem dL_law_1651 : decode cL_law 1651 = .ok (.invokevirtual 193, 3) := by decide +kernel
theorem dL_law_1654 : decode cL_law 1654 = .ok (.pop, 1) := by decide +kernel
theorem dL_law_1655 : decode cL_law 1655 = .ok (.goto 95, 3) := by decide +kernel
theorem dL_law_1658 : decode cL_law 1658 = .ok (.aload_n 1, 1) := by decide +kernel
theorem dL_law_1659 : decode cL_law 1659 = .ok (.aload_n 0, 1) := by decide +kernel
theorem dL_law_1660 : decode cL_law 1660 = .ok (.iload_n 3, 1) := by decide +kernel
theorem dL_law_1661 : decode cL_law 1661 = .ok (.iconst 1, 1) := by decide +kernel
theorem dL_law_1662 : decode cL_law 1662 = .ok (.iadd, 1) := by decide +kernel
theorem dL_law_1663 : decode cL_law 1663 = .ok (.iaload, 1) := by decide +kernel
theorem dL_law_1664 : decode cL_law 1664 = .ok (.invokevirtual 194, 3) := by decide +kernel
theorem dL_law_1667 : decode cL_law 1667 = .ok (.pop, 1) := by decide +kernel
theorem dL_law_1668 : decode cL_law 1668 = .ok (.aload_n 2, 1) := by decide +kernel
theorem dL_law_1669 : decode cL_law 1669 = .ok (.aload_n 0, 1) := by decide +kernel
theorem dL_law_1670 : decode cL_law 1670 = .ok (.iload_n 3, 1) := by decide +kernel
theorem dL_law_1671 : decode cL_law 1671 = .ok (.iconst 1, 1) := by decide +kernel
theorem dL_law_1672 : decode cL_law 1672 = .ok (.iadd, 1) := by decide +kernel
theorem dL_law_1673 : decode cL_law 1673 = .ok (.iaload, 1) := by decide +kernel
theorem dL_law_1674 : decode cL_law 1674 = .ok (.invokevirtual 197, 3) := by decide +kernel
theorem dL_law_1677 : decode cL_law 1677 = .ok (.pop, 1) := by decide +kernel
theorem dL_law_1678 : decode cL_law 1678 = .ok (.goto 72, 3) := by decide +kernel
theorem dL_law_1681 : decode cL_law 1681 = .ok (.aload_n 1, 1) := by decide +kernel
theorem dL_law_1682 : decode cL_law 1682 = .ok (.aload_n 0, 1) := by decide +kernel
theorem dL_law_1683 : decode cL_law 1683 = .ok (.iload_n 3, 1) := by decide +kernel
theorem dL_law_1684 : decode cL_law 1684 = .ok (.iconst 1, 1) := by decide +kernel
theorem dL_law_1685 : decode cL_law 1685 = .ok (.iadd, 1) := by decide +kernel
theorem dL_law_1686 : decode cL_law 1686 = .ok (.iaload, 1) := by decide +kernel
theorem dL_law_1687 : decode cL_law 1687 = .ok (.aload_n 0, 1) := by decide +kernel
theorem dL_law_1688 : decode cL_law 1688 = .ok (.iload_n 3, 1) := by decide +kernel
theorem dL_law_1689 : decode cL_law 1689 = .ok (.iconst 2, 1) := by decide +kernel
theorem dL_law_1690 : decode cL_law 1690 = .ok (.iadd, 1) := by decide +kernel
theorem dL_law_1691 : decode cL_law 1691 = .ok (.iaload, 1) := by decide +kernel
theorem dL_law_1692 : decode cL_law 1692 = .ok (.aload_n 0, 1) := by decide +kernel
theorem dL_law_1693 : decode cL_law 1693 = .ok (.iload_n 3, 1) := by decide +kernel
theorem dL_law_1694 : decode cL_law 1694 = .ok (.iconst 3, 1) := by decide +kernel
theorem dL_law_1695 : decode cL_law 1695 = .ok (.iadd, 1) := by decide +kernel
theorem dL_law_1696 : decode cL_law 1696 = .ok (.iaload, 1) := by decide +kernel
theorem dL_law_1697 : decode cL_law 1697 = .ok (.invokevirtual 198, 3) := by decide +kernel
theorem dL_law_1700 : decode cL_law 1700 = .ok (.pop, 1) := by decide +kernel
theorem dL_law_1701 : decode cL_law 1701 = .ok (.aload_n 2, 1) := by decide +kernel
theorem dL_law_1702 : decode cL_law 1702 = .ok (.aload_n 0, 1) := by decide +kernel
theorem dL_law_1703 : decode cL_law 1703 = .ok (.iload_n 3, 1) := by decide +kernel
theorem dL_law_1704 : decode cL_law 1704 = .ok (.iconst 1, 1) := by decide +kernel
theorem dL_law_1705 : decode cL_law 1705 = .ok (.iadd, 1) := by decide +kernel
theorem dL_law_1706 : decode cL_law 1706 = .ok (.iaload, 1) := by decide +kernel
theorem dL_law_1707 : decode cL_law 1707 = .ok (.aload_n 0, 1) := by decide +kernel
theorem dL_law_1708 : decode cL_law 1708 = .ok (.iload_n 3, 1) := by decide +kernel
theorem dL_law_1709 : decode cL_law 1709 = .ok (.iconst 2, 1) := by decide +kernel
theorem dL_law_1710 : decode cL_law 1710 = .ok (.iadd, 1) := by decide +kernel
theorem dL_law_1711 : decode cL_law 1711 = .ok (.iaload, 1) := by decide +kernel
theorem dL_law_1712 : decode cL_law 1712 = .ok (.aload_n 0, 1) := by decide +kernel
theorem dL_law_1713 : decode cL_law 1713 = .ok (.iload_n 3, 1) := by decide +kernel
theorem dL_law_1714 : decode cL_law 1714 = .ok (.iconst 3, 1) := by decide +kernel
theorem dL_law_1715 : decode cL_law 1715 = .ok (.iadd, 1) := by decide +kernel
theorem dL_law_1716 : decode cL_law 1716 = .ok (.iaload, 1) := by decide +kernel
theorem dL_law_1717 : decode cL_law 1717 = .ok (.invokevirtual 201, 3) := by decide +kernel
theorem dL_law_1720 : decode cL_law 1720 = .ok (.pop, 1) := by decide +kernel
theorem dL_law_1721 : decode cL_law 1721 = .ok (.goto 29, 3) := by decide +kernel
theorem dL_law_1724 : decode cL_law 1724 = .ok (.aload_n 1, 1) := by decide +kernel
theorem dL_law_1725 : decode cL_law 1725 = .ok (.invokevirtual 202, 3) := by decide +kernel
theorem dL_law_1728 : decode cL_law 1728 = .ok (.aload_n 2, 1) := by decide +kernel
theorem dL_law_1729 : decode cL_law 1729 = .ok (.invokevirtual 205, 3) := by decide +kernel
theorem dL_law_1732 : decode cL_law 1732 = .ok (.if_icmp .eq 18, 3) := by decide +kernel
theorem dL_law_1735 : decode cL_law 1735 = .ok (.iconst 0, 1) := by decide +kernel
theorem dL_law_1736 : decode cL_law 1736 = .ok (.ireturn, 1) := by decide +kernel
theorem dL_law_1737 : decode cL_law 1737 = .ok (.aload_n 1, 1) := by decide +kernel
theorem dL_law_1738 : decode cL_law 1738 = .ok (.invokevirtual 206, 3) := by decide +kernel
theorem dL_law_1741 : decode cL_law 1741 = .ok (.pop, 1) := by decide +kernel
theorem dL_law_1742 : decode cL_law 1742 = .ok (.aload_n 2, 1) := by decide +kernel
theorem dL_law_1743 : decode cL_law 1743 = .ok (.invokevirtual 209, 3) := by decide +kernel
theorem dL_law_1746 : decode cL_law 1746 = .ok (.pop, 1) := by decide +kernel
theorem dL_law_1747 : decode cL_law 1747 = .ok (.goto 3, 3) := by decide +kernel
theorem dL_law_1750 : decode cL_law 1750 = .ok (.iinc 3 6, 3) := by decide +kernel
theorem dL_law_1753 : decode cL_law 1753 = .ok (.goto (-1735), 3) := by decide +kernel
theorem dL_law_1756 : decode cL_law 1756 = .ok (.iconst 1, 1) := by decide +kernel
theorem dL_law_1757 : decode cL_law 1757 = .ok (.ireturn, 1) := by decide +kernel
theorem o_zk_L_law_0 {l : Launch} {P : zP} : zAll l P zML (zMu q_L_law) 0 zk_L_law_0 := trivial
theorem o_zk_L_law_1 {l : Launch} {P : zP} : zAll l P zML (zMu q_L_law) 16 zk_L_law_1 := ⟨(show zSim l P zML (zMu q_L_law) 18 (2, 19, 3, 0, (Int.ofNat 0), []) from zs_iload_n dL_law_18 rfl), ⟨(show zSim l P zML (zMu q_L_law) 19 (2, 20, 0, 2, (Int.ofNat 0), []) from zs_aload_n dL_law_19 rfl), ⟨(show zSim l P zML (zMu q_L_law) 20 (24, 21, 0, 0, (Int.ofNat 0), []) from zs_alen dL_law_20), ⟨(show zSim l P zML (zMu q_L_law) 21 (0, 23, 0, 0, (Int.ofNat 6), []) from zs_bipush (Int32.ofNat 6) dL_law_21 (by decide +kernel) (by decide +kernel)), ⟨(show zSim l P zML (zMu q_L_law) 23 (7, 24, 0, 1, (Int.ofNat 0), []) from zs_isub dL_law_23), ⟨(show zSim l P zML (zMu q_L_law) 24 (17, 27, 1756, 1, (Int.ofNat 0), []) from zs_icmp_gt 1756 dL_law_24 (by decide +kernel)), ⟨(show zSim l P zML (zMu q_L_law) 27 (2, 28, 0, 2, (Int.ofNat 0), []) from zs_aload_n dL_law_27 rfl), ⟨(show zSim l P zML (zMu q_L_law) 28 (2, 29, 3, 0, (Int.ofNat 0), []) from zs_iload_n dL_law_28 rfl), ⟨(show zSim l P zML (zMu q_L_law) 29 (22, 30, 0, 0, (Int.ofNat 0), []) from zs_iald dL_law_29), ⟨(show zSim l P zML (zMu q_L_law) 30 (0, 32, 0, 0, (Int.ofNat 63), []) from zs_bipush (Int32.ofNat 63) dL_law_30 (by decide +kernel) (by decide +kernel)), trivial⟩⟩⟩⟩⟩⟩⟩⟩⟩⟩
theorem o_zk_L_law_2 {l : Launch} {P : zP} : zAll l P zML (zMu q_L_law) 32 zk_L_law_2 := ⟨(show zSim l P zML (zMu q_L_law) 32 (7, 33, 0, 3, (Int.ofNat 0), []) from zs_iand dL_law_32), ⟨(show zSim l P zML (zMu q_L_law) 33 (19, 1750, 0, 0, (Int.ofNat 0), [((Int.ofNat 0), 232), ((Int.ofNat 1), 245), ((Int.ofNat 2), 258), ((Int.ofNat 3), 271), ((Int.ofNat 4), 314), ((Int.ofNat 5), 387), ((Int.ofNat 6), 420), ((Int.ofNat 7), 483), ((Int.ofNat 8), 546), ((Int.ofNat 9), 569), ((Int.ofNat 10), 592), ((Int.ofNat 11), 615), ((Int.ofNat 12), 638), ((Int.ofNat 13), 681), ((Int.ofNat 14), 724), ((Int.ofNat 15), 767), ((Int.ofNat 16), 800), ((Int.ofNat 17), 843), ((Int.ofNat 18), 886), ((Int.ofNat 19), 929), ((Int.ofNat 20), 972), ((Int.ofNat 21), 1005), ((Int.ofNat 22), 1038), ((Int.ofNat 23), 1071), ((Int.ofNat 24), 1094), ((Int.ofNat 25), 1117), ((Int.ofNat 26), 1150), ((Int.ofNat 27), 1173), ((Int.ofNat 28), 1186), ((Int.ofNat 29), 1209), ((Int.ofNat 30), 1232), ((Int.ofNat 31), 1265), ((Int.ofNat 32), 1278), ((Int.ofNat 33), 1311), ((Int.ofNat 34), 1354), ((Int.ofNat 35), 1377), ((Int.ofNat 36), 1420), ((Int.ofNat 37), 1453), ((Int.ofNat 38), 1486), ((Int.ofNat 39), 1529), ((Int.ofNat 40), 1592), ((Int.ofNat 41), 1635), ((Int.ofNat 42), 1658), ((Int.ofNat 43), 1681), ((Int.ofNat 44), 1724), ((Int.ofNat 45), 1737)]) from zs_tsw 1750 [((Int.ofNat 0), 232), ((Int.ofNat 1), 245), ((Int.ofNat 2), 258), ((Int.ofNat 3), 271), ((Int.ofNat 4), 314), ((Int.ofNat 5), 387), ((Int.ofNat 6), 420), ((Int.ofNat 7), 483), ((Int.ofNat 8), 546), ((Int.ofNat 9), 569), ((Int.ofNat 10), 592), ((Int.ofNat 11), 615), ((Int.ofNat 12), 638), ((Int.ofNat 13), 681), ((Int.ofNat 14), 724), ((Int.ofNat 15), 767), ((Int.ofNat 16), 800), ((Int.ofNat 17), 843), ((Int.ofNat 18), 886), ((Int.ofNat 19), 929), ((Int.ofNat 20), 972), ((Int.ofNat 21), 1005), ((Int.ofNat 22), 1038), ((Int.ofNat 23), 1071), ((Int.ofNat 24), 1094), ((Int.ofNat 25), 1117), ((Int.ofNat 26), 1150), ((Int.ofNat 27), 1173), ((Int.ofNat 28), 1186), ((Int.ofNat 29), 1209), ((Int.ofNat 30), 1232), ((Int.ofNat 31), 1265), ((Int.ofNat 32), 1278), ((Int.ofNat 33), 1311), ((Int.ofNat 34), 1354), ((Int.ofNat 35), 1377), ((Int.ofNat 36), 1420), ((Int.ofNat 37), 1453), ((Int.ofNat 38), 1486), ((Int.ofNat 39), 1529), ((Int.ofNat 40), 1592), ((Int.ofNat 41), 1635), ((Int.ofNat 42), 1658), ((Int.ofNat 43), 1681), ((Int.ofNat 44), 1724), ((Int.ofNat 45), 1737)] dL_law_33 (by decide +kernel) (by decide +kernel) (by decide +kernel) (by decide +kernel)), trivial⟩⟩
theorem o_zk_L_law_3 {l : Launch} {P : zP} : zAll l P zML (zMu q_L_law) 48 zk_L_law_3 := trivial
theorem o_zk_L_law_4 {l : Launch} {P : zP} : zAll l P zML (zMu q_L_law) 64 zk_L_law_4 := trivial
theorem o_zk_L_law_5 {l : Launch} {P : zP} : zAll l P zML (zMu q_L_law) 80 zk_L_law_5 := trivial
theorem o_zk_L_law_6 {l : Launch} {P : zP} : zAll l P zML (zMu q_L_law) 96 zk_L_law_6 := trivial
theorem o_zk_L_law_7 {l : Launch} {P : zP} : zAll l P zML (zMu q_L_law) 112 zk_L_law_7 := trivial
theorem o_zk_L_law_8 {l : Launch} {P : zP} : zAll l P zML (zMu q_L_law) 128 zk_L_law_8 := trivial
theorem o_zk_L_law_9 {l : Launch} {P : zP} : zAll l P zML (zMu q_L_law) 144 zk_L_law_9 := trivial
theorem o_zk_L_law_10 {l : Launch} {P : zP} : zAll l P zML (zMu q_L_law) 160 zk_L_law_10 := trivial
theorem o_zk_L_law_11 {l : Launch} {P : zP} : zAll l P zML (zMu q_L_law) 176 zk_L_law_11 := trivial
theorem o_zk_L_law_12 {l : Launch} {P : zP} : zAll l P zML (zMu q_L_law) 192 zk_L_law_12 := trivial
theorem o_zk_L_law_13 {l : Launch} {P : zP} : zAll l P zML (zMu q_L_law) 208 zk_L_law_13 := trivial
theorem o_zk_L_law_14 {l : Launch} {P : zP} : zAll l P zML (zMu q_L_law) 224 zk_L_law_14 := ⟨(show zSim l P zML (zMu q_L_law) 232 (2, 233, 1, 2, (Int.ofNat 0), []) from zs_aload_n dL_law_232 rfl), ⟨(show zSim l P zML (zMu q_L_law) 233 (29, 236, 181, 1, (Int.ofNat 11), [((Int.ofNat 0), 1)]) from zs_callV 11 q_X11_status m_X11_status (Nat.le_of_ble_eq_true rfl) dL_law_233 rfl (xvc_11) w_1306 w_1307 w_1308 w_1305 w_625 h_X11_status), ⟨(show zSim l P zML (zMu q_L_law) 236 (15, 237, 0, 0, (Int.ofNat 0), []) from zs_pop dL_law_236), ⟨(show zSim l P zML (zMu q_L_law) 237 (2, 238, 2, 2, (Int.ofNat 0), []) from zs_aload_n dL_law_237 rfl), ⟨(show zSim l P zML (zMu q_L_law) 238 (29, 241, 315, 1, (Int.ofNat 12), [((Int.ofNat 0), 1)]) from zs_callV 12 q_X12_status m_X12_status (Nat.le_of_ble_eq_true rfl) dL_law_238 rfl (xvc_12) w_1310 w_1311 w_1312 w_1309 w_853 h_X12_status), trivial⟩⟩⟩⟩⟩
theorem o_zk_L_law_15 {l : Launch} {P : zP} : zAll l P zML (zMu q_L_law) 240 zk_L_law_15 := ⟨(show zSim l P zML (zMu q_L_law) 241 (15, 242, 0, 0, (Int.ofNat 0), []) from zs_pop dL_law_241), ⟨(show zSim l P zML (zMu q_L_law) 242 (1, 1750, 0, 0, (Int.ofNat 0), []) from zs_goto 1750 dL_law_242 (by decide +kernel)), ⟨(show zSim l P zML (zMu q_L_law) 245 (2, 246, 1, 2, (Int.ofNat 0), []) from zs_aload_n dL_law_245 rfl), ⟨(show zSim l P zML (zMu q_L_law) 246 (29, 249, 187, 1, (Int.ofNat 11), [((Int.ofNat 0), 1)]) from zs_callV 11 q_X11_top m_X11_top (Nat.le_of_ble_eq_true rfl) dL_law_246 rfl (xvc_11) w_1314 w_1315 w_1316 w_1313 w_625 h_X11_top), ⟨(show zSim l P zML (zMu q_L_law) 249 (15, 250, 0, 1, (Int.ofNat 0), []) from zs_pop2 dL_law_249), ⟨(show zSim l P zML (zMu q_L_law) 250 (2, 251, 2, 2, (Int.ofNat 0), []) from zs_aload_n dL_law_250 rfl), ⟨(show zSim l P zML (zMu q_L_law) 251 (29, 254, 328, 1, (Int.ofNat 12), [((Int.ofNat 0), 1)]) from zs_callV 12 q_X12_top m_X12_top (Nat.le_of_ble_eq_true rfl) dL_law_251 rfl (xvc_12) w_1318 w_1319 w_1320 w_1317 w_853 h_X12_top), ⟨(show zSim l P zML (zMu q_L_law) 254 (15, 255, 0, 1, (Int.ofNat 0), []) from zs_pop2 dL_law_254), ⟨(show zSim l P zML (zMu q_L_law) 255 (1, 1750, 0, 0, (Int.ofNat 0), []) from zs_goto 1750 dL_law_255 (by decide +kernel)), trivial⟩⟩⟩⟩⟩⟩⟩⟩⟩
theorem o_zk_L_law_16 {l : Launch} {P : zP} : zAll l P zML (zMu q_L_law) 256 zk_L_law_16 := ⟨(show zSim l P zML (zMu q_L_law) 258 (2, 259, 1, 2, (Int.ofNat 0), []) from zs_aload_n dL_law_258 rfl), ⟨(show zSim l P zML (zMu q_L_law) 259 (29, 262, 147, 1, (Int.ofNat 11), [((Int.ofNat 0), 1)]) from zs_callV 11 q_X11_bottom m_X11_bottom (Nat.le_of_ble_eq_true rfl) dL_law_259 rfl (xvc_11) w_1322 w_1323 w_1324 w_1321 w_625 h_X11_bottom), ⟨(show zSim l P zML (zMu q_L_law) 262 (15, 263, 0, 1, (Int.ofNat 0), []) from zs_pop2 dL_law_262), ⟨(show zSim l P zML (zMu q_L_law) 263 (2, 264, 2, 2, (Int.ofNat 0), []) from zs_aload_n dL_law_263 rfl), ⟨(show zSim l P zML (zMu q_L_law) 264 (29, 267, 204, 1, (Int.ofNat 12), [((Int.ofNat 0), 1)]) from zs_callV 12 q_X12_bottom m_X12_bottom (Nat.le_of_ble_eq_true rfl) dL_law_264 rfl (xvc_12) w_1326 w_1327 w_1328 w_1325 w_853 h_X12_bottom), ⟨(show zSim l P zML (zMu q_L_law) 267 (15, 268, 0, 1, (Int.ofNat 0), []) from zs_pop2 dL_law_267), ⟨(show zSim l P zML (zMu q_L_law) 268 (1, 1750, 0, 0, (Int.ofNat 0), []) from zs_goto 1750 dL_law_268 (by decide +kernel)), ⟨(show zSim l P zML (zMu q_L_law) 271 (2, 272, 1, 2, (Int.ofNat 0), []) from zs_aload_n dL_law_271 rfl), trivial⟩⟩⟩⟩⟩⟩⟩⟩
theorem o_zk_L_law_17 {l : Launch} {P : zP} : zAll l P zML (zMu q_L_law) 272 zk_L_law_17 := ⟨(show zSim l P zML (zMu q_L_law) 272 (2, 273, 0, 2, (Int.ofNat 0), []) from zs_aload_n dL_law_272 rfl), ⟨(show zSim l P zML (zMu q_L_law) 273 (2, 274, 3, 0, (Int.ofNat 0), []) from zs_iload_n dL_law_273 rfl), ⟨(show zSim l P zML (zMu q_L_law) 274 (0, 275, 0, 0, (Int.ofNat 1), []) from zs_iconst (Int32.ofNat 1) dL_law_274 (by decide +kernel) (by decide +kernel)), ⟨(show zSim l P zML (zMu q_L_law) 275 (7, 276, 0, 0, (Int.ofNat 0), []) from zs_iadd dL_law_275), ⟨(show zSim l P zML (zMu q_L_law) 276 (22, 277, 0, 0, (Int.ofNat 0), []) from zs_iald dL_law_276), ⟨(show zSim l P zML (zMu q_L_law) 277 (2, 278, 0, 2, (Int.ofNat 0), []) from zs_aload_n dL_law_277 rfl), ⟨(show zSim l P zML (zMu q_L_law) 278 (2, 279, 3, 0, (Int.ofNat 0), []) from zs_iload_n dL_law_278 rfl), ⟨(show zSim l P zML (zMu q_L_law) 279 (0, 280, 0, 0, (Int.ofNat 2), []) from zs_iconst (Int32.ofNat 2) dL_law_279 (by decide +kernel) (by decide +kernel)), ⟨(show zSim l P zML (zMu q_L_law) 280 (7, 281, 0, 0, (Int.ofNat 0), []) from zs_iadd dL_law_280), ⟨(show zSim l P zML (zMu q_L_law) 281 (22, 282, 0, 0, (Int.ofNat 0), []) from zs_iald dL_law_281), ⟨(show zSim l P zML (zMu q_L_law) 282 (2, 283, 0, 2, (Int.ofNat 0), []) from zs_aload_n dL_law_282 rfl), ⟨(show zSim l P zML (zMu q_L_law) 283 (2, 284, 3, 0, (Int.ofNat 0), []) from zs_iload_n dL_law_283 rfl), ⟨(show zSim l P zML (zMu q_L_law) 284 (0, 285, 0, 0, (Int.ofNat 3), []) from zs_iconst (Int32.ofNat 3) dL_law_284 (by decide +kernel) (by decide +kernel)), ⟨(show zSim l P zML (zMu q_L_law) 285 (7, 286, 0, 0, (Int.ofNat 0), []) from zs_iadd dL_law_285), ⟨(show zSim l P zML (zMu q_L_law) 286 (22, 287, 0, 0, (Int.ofNat 0), []) from zs_iald dL_law_286), ⟨(show zSim l P zML (zMu q_L_law) 287 (29, 290, 188, 4, (Int.ofNat 11), [((Int.ofNat 0), 4)]) from zs_callV 11 q_X11_tray m_X11_tray (Nat.le_of_ble_eq_true rfl) dL_law_287 rfl (xvc_11) w_1330 w_1331 w_1332 w_1329 w_625 h_X11_tray), trivial⟩⟩⟩⟩⟩⟩⟩⟩⟩⟩⟩⟩⟩⟩⟩⟩
theorem o_zk_L_law_18 {l : Launch} {P : zP} : zAll l P zML (zMu q_L_law) 288 zk_L_law_18 := ⟨(show zSim l P zML (zMu q_L_law) 290 (15, 291, 0, 0, (Int.ofNat 0), []) from zs_pop dL_law_290), ⟨(show zSim l P zML (zMu q_L_law) 291 (2, 292, 2, 2, (Int.ofNat 0), []) from zs_aload_n dL_law_291 rfl), ⟨(show zSim l P zML (zMu q_L_law) 292 (2, 293, 0, 2, (Int.ofNat 0), []) from zs_aload_n dL_law_292 rfl), ⟨(show zSim l P zML (zMu q_L_law) 293 (2, 294, 3, 0, (Int.ofNat 0), []) from zs_iload_n dL_law_293 rfl), ⟨(show zSim l P zML (zMu q_L_law) 294 (0, 295, 0, 0, (Int.ofNat 1), []) from zs_iconst (Int32.ofNat 1) dL_law_294 (by decide +kernel) (by decide +kernel)), ⟨(show zSim l P zML (zMu q_L_law) 295 (7, 296, 0, 0, (Int.ofNat 0), []) from zs_iadd dL_law_295), ⟨(show zSim l P zML (zMu q_L_law) 296 (22, 297, 0, 0, (Int.ofNat 0), []) from zs_iald dL_law_296), ⟨(show zSim l P zML (zMu q_L_law) 297 (2, 298, 0, 2, (Int.ofNat 0), []) from zs_aload_n dL_law_297 rfl), ⟨(show zSim l P zML (zMu q_L_law) 298 (2, 299, 3, 0, (Int.ofNat 0), []) from zs_iload_n dL_law_298 rfl), ⟨(show zSim l P zML (zMu q_L_law) 299 (0, 300, 0, 0, (Int.ofNat 2), []) from zs_iconst (Int32.ofNat 2) dL_law_299 (by decide +kernel) (by decide +kernel)), ⟨(show zSim l P zML (zMu q_L_law) 300 (7, 301, 0, 0, (Int.ofNat 0), []) from zs_iadd dL_law_300), ⟨(show zSim l P zML (zMu q_L_law) 301 (22, 302, 0, 0, (Int.ofNat 0), []) from zs_iald dL_law_301), ⟨(show zSim l P zML (zMu q_L_law) 302 (2, 303, 0, 2, (Int.ofNat 0), []) from zs_aload_n dL_law_302 rfl), ⟨(show zSim l P zML (zMu q_L_law) 303 (2, 304, 3, 0, (Int.ofNat 0), []) from zs_iload_n dL_law_303 rfl), trivial⟩⟩⟩⟩⟩⟩⟩⟩⟩⟩⟩⟩⟩⟩
theorem o_zk_L_law_19 {l : Launch} {P : zP} : zAll l P zML (zMu q_L_law) 304 zk_L_law_19 := ⟨(show zSim l P zML (zMu q_L_law) 304 (0, 305, 0, 0, (Int.ofNat 3), []) from zs_iconst (Int32.ofNat 3) dL_law_304 (by decide +kernel) (by decide +kernel)), ⟨(show zSim l P zML (zMu q_L_law) 305 (7, 306, 0, 0, (Int.ofNat 0), []) from zs_iadd dL_law_305), ⟨(show zSim l P zML (zMu q_L_law) 306 (22, 307, 0, 0, (Int.ofNat 0), []) from zs_iald dL_law_306), ⟨(show zSim l P zML (zMu q_L_law) 307 (29, 310, 329, 4, (Int.ofNat 12), [((Int.ofNat 0), 5)]) from zs_callV 12 q_X12_tray m_X12_tray (Nat.le_of_ble_eq_true rfl) dL_law_307 rfl (xvc_12) w_1334 w_1335 w_1336 w_1333 w_853 h_X12_tray), ⟨(show zSim l P zML (zMu q_L_law) 310 (15, 311, 0, 0, (Int.ofNat 0), []) from zs_pop dL_law_310), ⟨(show zSim l P zML (zMu q_L_law) 311 (1, 1750, 0, 0, (Int.ofNat 0), []) from zs_goto 1750 dL_law_311 (by decide +kernel)), ⟨(show zSim l P zML (zMu q_L_law) 314 (2, 315, 1, 2, (Int.ofNat 0), []) from zs_aload_n dL_law_314 rfl), ⟨(show zSim l P zML (zMu q_L_law) 315 (2, 316, 0, 2, (Int.ofNat 0), []) from zs_aload_n dL_law_315 rfl), ⟨(show zSim l P zML (zMu q_L_law) 316 (2, 317, 3, 0, (Int.ofNat 0), []) from zs_iload_n dL_law_316 rfl), ⟨(show zSim l P zML (zMu q_L_law) 317 (0, 318, 0, 0, (Int.ofNat 1), []) from zs_iconst (Int32.ofNat 1) dL_law_317 (by decide +kernel) (by decide +kernel)), ⟨(show zSim l P zML (zMu q_L_law) 318 (7, 319, 0, 0, (Int.ofNat 0), []) from zs_iadd dL_law_318), ⟨(show zSim l P zML (zMu q_L_law) 319 (22, 320, 0, 0, (Int.ofNat 0), []) from zs_iald dL_law_319), trivial⟩⟩⟩⟩⟩⟩⟩⟩⟩⟩⟩⟩
theorem o_zk_L_law_20 {l : Launch} {P : zP} : zAll l P zML (zMu q_L_law) 320 zk_L_law_20 := ⟨(show zSim l P zML (zMu q_L_law) 320 (2, 321, 0, 2, (Int.ofNat 0), []) from zs_aload_n dL_law_320 rfl), ⟨(show zSim l P zML (zMu q_L_law) 321 (2, 322, 3, 0, (Int.ofNat 0), []) from zs_iload_n dL_law_321 rfl), ⟨(show zSim l P zML (zMu q_L_law) 322 (0, 323, 0, 0, (Int.ofNat 2), []) from zs_iconst (Int32.ofNat 2) dL_law_322 (by decide +kernel) (by decide +kernel)), ⟨(show zSim l P zML (zMu q_L_law) 323 (7, 324, 0, 0, (Int.ofNat 0), []) from zs_iadd dL_law_323), ⟨(show zSim l P zML (zMu q_L_law) 324 (22, 325, 0, 0, (Int.ofNat 0), []) from zs_iald dL_law_324), ⟨(show zSim l P zML (zMu q_L_law) 325 (2, 326, 0, 2, (Int.ofNat 0), []) from zs_aload_n dL_law_325 rfl), ⟨(show zSim l P zML (zMu q_L_law) 326 (2, 327, 3, 0, (Int.ofNat 0), []) from zs_iload_n dL_law_326 rfl), ⟨(show zSim l P zML (zMu q_L_law) 327 (0, 328, 0, 0, (Int.ofNat 3), []) from zs_iconst (Int32.ofNat 3) dL_law_327 (by decide +kernel) (by decide +kernel)), ⟨(show zSim l P zML (zMu q_L_law) 328 (7, 329, 0, 0, (Int.ofNat 0), []) from zs_iadd dL_law_328), ⟨(show zSim l P zML (zMu q_L_law) 329 (22, 330, 0, 0, (Int.ofNat 0), []) from zs_iald dL_law_329), ⟨(show zSim l P zML (zMu q_L_law) 330 (13, 331, 0, 0, (Int.ofNat 0), []) from zs_i2l dL_law_330), ⟨(show zSim l P zML (zMu q_L_law) 331 (0, 333, 0, 0, (Int.ofNat 32), []) from zs_bipush (Int32.ofNat 32) dL_law_331 (by decide +kernel) (by decide +kernel)), ⟨(show zSim l P zML (zMu q_L_law) 333 (12, 334, 0, 0, (Int.ofNat 0), []) from zs_lshl dL_law_333), ⟨(show zSim l P zML (zMu q_L_law) 334 (2, 335, 0, 2, (Int.ofNat 0), []) from zs_aload_n dL_law_334 rfl), ⟨(show zSim l P zML (zMu q_L_law) 335 (2, 336, 3, 0, (Int.ofNat 0), []) from zs_iload_n dL_law_335 rfl), trivial⟩⟩⟩⟩⟩⟩⟩⟩⟩⟩⟩⟩⟩⟩⟩
theorem o_zk_L_law_21 {l : Launch} {P : zP} : zAll l P zML (zMu q_L_law) 336 zk_L_law_21 := ⟨(show zSim l P zML (zMu q_L_law) 336 (0, 337, 0, 0, (Int.ofNat 4), []) from zs_iconst (Int32.ofNat 4) dL_law_336 (by decide +kernel) (by decide +kernel)), ⟨(show zSim l P zML (zMu q_L_law) 337 (7, 338, 0, 0, (Int.ofNat 0), []) from zs_iadd dL_law_337), ⟨(show zSim l P zML (zMu q_L_law) 338 (22, 339, 0, 0, (Int.ofNat 0), []) from zs_iald dL_law_338), ⟨(show zSim l P zML (zMu q_L_law) 339 (13, 340, 0, 0, (Int.ofNat 0), []) from zs_i2l dL_law_339), ⟨(show zSim l P zML (zMu q_L_law) 340 (0, 343, 1, 0, (Int.ofNat 4294967295), []) from zs_ldc2 (Int64.ofNat 4294967295) dL_law_340 w_1337 (by decide +kernel)), ⟨(show zSim l P zML (zMu q_L_law) 343 (10, 344, 0, 3, (Int.ofNat 0), []) from zs_land dL_law_343), ⟨(show zSim l P zML (zMu q_L_law) 344 (10, 345, 0, 4, (Int.ofNat 0), []) from zs_lor dL_law_344), ⟨(show zSim l P zML (zMu q_L_law) 345 (29, 348, 195, 4, (Int.ofNat 11), [((Int.ofNat 0), 7)]) from zs_callV 11 q_X11_write m_X11_write (Nat.le_of_ble_eq_true rfl) dL_law_345 rfl (xvc_11) w_1339 w_1340 w_1341 w_1338 w_625 h_X11_write), ⟨(show zSim l P zML (zMu q_L_law) 348 (15, 349, 0, 0, (Int.ofNat 0), []) from zs_pop dL_law_348), ⟨(show zSim l P zML (zMu q_L_law) 349 (2, 350, 2, 2, (Int.ofNat 0), []) from zs_aload_n dL_law_349 rfl), ⟨(show zSim l P zML (zMu q_L_law) 350 (2, 351, 0, 2, (Int.ofNat 0), []) from zs_aload_n dL_law_350 rfl), ⟨(show zSim l P zML (zMu q_L_law) 351 (2, 352, 3, 0, (Int.ofNat 0), []) from zs_iload_n dL_law_351 rfl), trivial⟩⟩⟩⟩⟩⟩⟩⟩⟩⟩⟩⟩
theorem o_zk_L_law_22 {l : Launch} {P : zP} : zAll l P zML (zMu q_L_law) 352 zk_L_law_22 := ⟨(show zSim l P zML (zMu q_L_law) 352 (0, 353, 0, 0, (Int.ofNat 1), []) from zs_iconst (Int32.ofNat 1) dL_law_352 (by decide +kernel) (by decide +kernel)), ⟨(show zSim l P zML (zMu q_L_law) 353 (7, 354, 0, 0, (Int.ofNat 0), []) from zs_iadd dL_law_353), ⟨(show zSim l P zML (zMu q_L_law) 354 (22, 355, 0, 0, (Int.ofNat 0), []) from zs_iald dL_law_354), ⟨(show zSim l P zML (zMu q_L_law) 355 (2, 356, 0, 2, (Int.ofNat 0), []) from zs_aload_n dL_law_355 rfl), ⟨(show zSim l P zML (zMu q_L_law) 356 (2, 357, 3, 0, (Int.ofNat 0), []) from zs_iload_n dL_law_356 rfl), ⟨(show zSim l P zML (zMu q_L_law) 357 (0, 358, 0, 0, (Int.ofNat 2), []) from zs_iconst (Int32.ofNat 2) dL_law_357 (by decide +kernel) (by decide +kernel)), ⟨(show zSim l P zML (zMu q_L_law) 358 (7, 359, 0, 0, (Int.ofNat 0), []) from zs_iadd dL_law_358), ⟨(show zSim l P zML (zMu q_L_law) 359 (22, 360, 0, 0, (Int.ofNat 0), []) from zs_iald dL_law_359), ⟨(show zSim l P zML (zMu q_L_law) 360 (2, 361, 0, 2, (Int.ofNat 0), []) from zs_aload_n dL_law_360 rfl), ⟨(show zSim l P zML (zMu q_L_law) 361 (2, 362, 3, 0, (Int.ofNat 0), []) from zs_iload_n dL_law_361 rfl), ⟨(show zSim l P zML (zMu q_L_law) 362 (0, 363, 0, 0, (Int.ofNat 3), []) from zs_iconst (Int32.ofNat 3) dL_law_362 (by decide +kernel) (by decide +kernel)), ⟨(show zSim l P zML (zMu q_L_law) 363 (7, 364, 0, 0, (Int.ofNat 0), []) from zs_iadd dL_law_363), ⟨(show zSim l P zML (zMu q_L_law) 364 (22, 365, 0, 0, (Int.ofNat 0), []) from zs_iald dL_law_364), ⟨(show zSim l P zML (zMu q_L_law) 365 (13, 366, 0, 0, (Int.ofNat 0), []) from zs_i2l dL_law_365), ⟨(show zSim l P zML (zMu q_L_law) 366 (0, 368, 0, 0, (Int.ofNat 32), []) from zs_bipush (Int32.ofNat 32) dL_law_366 (by decide +kernel) (by decide +kernel)), trivial⟩⟩⟩⟩⟩⟩⟩⟩⟩⟩⟩⟩⟩⟩⟩
theorem o_zk_L_law_23 {l : Launch} {P : zP} : zAll l P zML (zMu q_L_law) 368 zk_L_law_23 := ⟨(show zSim l P zML (zMu q_L_law) 368 (12, 369, 0, 0, (Int.ofNat 0), []) from zs_lshl dL_law_368), ⟨(show zSim l P zML (zMu q_L_law) 369 (2, 370, 0, 2, (Int.ofNat 0), []) from zs_aload_n dL_law_369 rfl), ⟨(show zSim l P zML (zMu q_L_law) 370 (2, 371, 3, 0, (Int.ofNat 0), []) from zs_iload_n dL_law_370 rfl), ⟨(show zSim l P zML (zMu q_L_law) 371 (0, 372, 0, 0, (Int.ofNat 4), []) from zs_iconst (Int32.ofNat 4) dL_law_371 (by decide +kernel) (by decide +kernel)), ⟨(show zSim l P zML (zMu q_L_law) 372 (7, 373, 0, 0, (Int.ofNat 0), []) from zs_iadd dL_law_372), ⟨(show zSim l P zML (zMu q_L_law) 373 (22, 374, 0, 0, (Int.ofNat 0), []) from zs_iald dL_law_373), ⟨(show zSim l P zML (zMu q_L_law) 374 (13, 375, 0, 0, (Int.ofNat 0), []) from zs_i2l dL_law_374), ⟨(show zSim l P zML (zMu q_L_law) 375 (0, 378, 1, 0, (Int.ofNat 4294967295), []) from zs_ldc2 (Int64.ofNat 4294967295) dL_law_375 w_1337 (by decide +kernel)), ⟨(show zSim l P zML (zMu q_L_law) 378 (10, 379, 0, 3, (Int.ofNat 0), []) from zs_land dL_law_378), ⟨(show zSim l P zML (zMu q_L_law) 379 (10, 380, 0, 4, (Int.ofNat 0), []) from zs_lor dL_law_379), ⟨(show zSim l P zML (zMu q_L_law) 380 (29, 383, 339, 4, (Int.ofNat 12), [((Int.ofNat 0), 5)]) from zs_callV 12 q_X12_write m_X12_write (Nat.le_of_ble_eq_true rfl) dL_law_380 rfl (xvc_12) w_1343 w_1344 w_1345 w_1342 w_853 h_X12_write), ⟨(show zSim l P zML (zMu q_L_law) 383 (15, 384, 0, 0, (Int.ofNat 0), []) from zs_pop dL_law_383), trivial⟩⟩⟩⟩⟩⟩⟩⟩⟩⟩⟩⟩
theorem o_zk_L_law_24 {l : Launch} {P : zP} : zAll l P zML (zMu q_L_law) 384 zk_L_law_24 := ⟨(show zSim l P zML (zMu q_L_law) 384 (1, 1750, 0, 0, (Int.ofNat 0), []) from zs_goto 1750 dL_law_384 (by decide +kernel)), ⟨(show zSim l P zML (zMu q_L_law) 387 (2, 388, 1, 2, (Int.ofNat 0), []) from zs_aload_n dL_law_387 rfl), ⟨(show zSim l P zML (zMu q_L_law) 388 (2, 389, 0, 2, (Int.ofNat 0), []) from zs_aload_n dL_law_388 rfl), ⟨(show zSim l P zML (zMu q_L_law) 389 (2, 390, 3, 0, (Int.ofNat 0), []) from zs_iload_n dL_law_389 rfl), ⟨(show zSim l P zML (zMu q_L_law) 390 (0, 391, 0, 0, (Int.ofNat 1), []) from zs_iconst (Int32.ofNat 1) dL_law_390 (by decide +kernel) (by decide +kernel)), ⟨(show zSim l P zML (zMu q_L_law) 391 (7, 392, 0, 0, (Int.ofNat 0), []) from zs_iadd dL_law_391), ⟨(show zSim l P zML (zMu q_L_law) 392 (22, 393, 0, 0, (Int.ofNat 0), []) from zs_iald dL_law_392), ⟨(show zSim l P zML (zMu q_L_law) 393 (2, 394, 0, 2, (Int.ofNat 0), []) from zs_aload_n dL_law_393 rfl), ⟨(show zSim l P zML (zMu q_L_law) 394 (2, 395, 3, 0, (Int.ofNat 0), []) from zs_iload_n dL_law_394 rfl), ⟨(show zSim l P zML (zMu q_L_law) 395 (0, 396, 0, 0, (Int.ofNat 2), []) from zs_iconst (Int32.ofNat 2) dL_law_395 (by decide +kernel) (by decide +kernel)), ⟨(show zSim l P zML (zMu q_L_law) 396 (7, 397, 0, 0, (Int.ofNat 0), []) from zs_iadd dL_law_396), ⟨(show zSim l P zML (zMu q_L_law) 397 (22, 398, 0, 0, (Int.ofNat 0), []) from zs_iald dL_law_397), ⟨(show zSim l P zML (zMu q_L_law) 398 (29, 401, 175, 3, (Int.ofNat 11), [((Int.ofNat 0), 4)]) from zs_callV 11 q_X11_read m_X11_read (Nat.le_of_ble_eq_true rfl) dL_law_398 rfl (xvc_11) w_1347 w_1348 w_1349 w_1346 w_625 h_X11_read), trivial⟩⟩⟩⟩⟩⟩⟩⟩⟩⟩⟩⟩⟩
theorem o_zk_L_law_25 {l : Launch} {P : zP} : zAll l P zML (zMu q_L_law) 400 zk_L_law_25 := ⟨(show zSim l P zML (zMu q_L_law) 401 (15, 402, 0, 1, (Int.ofNat 0), []) from zs_pop2 dL_law_401), ⟨(show zSim l P zML (zMu q_L_law) 402 (2, 403, 2, 2, (Int.ofNat 0), []) from zs_aload_n dL_law_402 rfl), ⟨(show zSim l P zML (zMu q_L_law) 403 (2, 404, 0, 2, (Int.ofNat 0), []) from zs_aload_n dL_law_403 rfl), ⟨(show zSim l P zML (zMu q_L_law) 404 (2, 405, 3, 0, (Int.ofNat 0), []) from zs_iload_n dL_law_404 rfl), ⟨(show zSim l P zML (zMu q_L_law) 405 (0, 406, 0, 0, (Int.ofNat 1), []) from zs_iconst (Int32.ofNat 1) dL_law_405 (by decide +kernel) (by decide +kernel)), ⟨(show zSim l P zML (zMu q_L_law) 406 (7, 407, 0, 0, (Int.ofNat 0), []) from zs_iadd dL_law_406), ⟨(show zSim l P zML (zMu q_L_law) 407 (22, 408, 0, 0, (Int.ofNat 0), []) from zs_iald dL_law_407), ⟨(show zSim l P zML (zMu q_L_law) 408 (2, 409, 0, 2, (Int.ofNat 0), []) from zs_aload_n dL_law_408 rfl), ⟨(show zSim l P zML (zMu q_L_law) 409 (2, 410, 3, 0, (Int.ofNat 0), []) from zs_iload_n dL_law_409 rfl), ⟨(show zSim l P zML (zMu q_L_law) 410 (0, 411, 0, 0, (Int.ofNat 2), []) from zs_iconst (Int32.ofNat 2) dL_law_410 (by decide +kernel) (by decide +kernel)), ⟨(show zSim l P zML (zMu q_L_law) 411 (7, 412, 0, 0, (Int.ofNat 0), []) from zs_iadd dL_law_411), ⟨(show zSim l P zML (zMu q_L_law) 412 (22, 413, 0, 0, (Int.ofNat 0), []) from zs_iald dL_law_412), ⟨(show zSim l P zML (zMu q_L_law) 413 (29, 416, 294, 3, (Int.ofNat 12), [((Int.ofNat 0), 3)]) from zs_callV 12 q_X12_read m_X12_read (Nat.le_of_ble_eq_true rfl) dL_law_413 rfl (xvc_12) w_1351 w_1352 w_1353 w_1350 w_853 h_X12_read), trivial⟩⟩⟩⟩⟩⟩⟩⟩⟩⟩⟩⟩⟩
theorem o_zk_L_law_26 {l : Launch} {P : zP} : zAll l P zML (zMu q_L_law) 416 zk_L_law_26 := ⟨(show zSim l P zML (zMu q_L_law) 416 (15, 417, 0, 1, (Int.ofNat 0), []) from zs_pop2 dL_law_416), ⟨(show zSim l P zML (zMu q_L_law) 417 (1, 1750, 0, 0, (Int.ofNat 0), []) from zs_goto 1750 dL_law_417 (by decide +kernel)), ⟨(show zSim l P zML (zMu q_L_law) 420 (2, 421, 1, 2, (Int.ofNat 0), []) from zs_aload_n dL_law_420 rfl), ⟨(show zSim l P zML (zMu q_L_law) 421 (2, 422, 0, 2, (Int.ofNat 0), []) from zs_aload_n dL_law_421 rfl), ⟨(show zSim l P zML (zMu q_L_law) 422 (2, 423, 3, 0, (Int.ofNat 0), []) from zs_iload_n dL_law_422 rfl), ⟨(show zSim l P zML (zMu q_L_law) 423 (0, 424, 0, 0, (Int.ofNat 1), []) from zs_iconst (Int32.ofNat 1) dL_law_423 (by decide +kernel) (by decide +kernel)), ⟨(show zSim l P zML (zMu q_L_law) 424 (7, 425, 0, 0, (Int.ofNat 0), []) from zs_iadd dL_law_424), ⟨(show zSim l P zML (zMu q_L_law) 425 (22, 426, 0, 0, (Int.ofNat 0), []) from zs_iald dL_law_425), ⟨(show zSim l P zML (zMu q_L_law) 426 (2, 427, 0, 2, (Int.ofNat 0), []) from zs_aload_n dL_law_426 rfl), ⟨(show zSim l P zML (zMu q_L_law) 427 (2, 428, 3, 0, (Int.ofNat 0), []) from zs_iload_n dL_law_427 rfl), ⟨(show zSim l P zML (zMu q_L_law) 428 (0, 429, 0, 0, (Int.ofNat 2), []) from zs_iconst (Int32.ofNat 2) dL_law_428 (by decide +kernel) (by decide +kernel)), ⟨(show zSim l P zML (zMu q_L_law) 429 (7, 430, 0, 0, (Int.ofNat 0), []) from zs_iadd dL_law_429), ⟨(show zSim l P zML (zMu q_L_law) 430 (22, 431, 0, 0, (Int.ofNat 0), []) from zs_iald dL_law_430), ⟨(show zSim l P zML (zMu q_L_law) 431 (2, 432, 0, 2, (Int.ofNat 0), []) from zs_aload_n dL_law_431 rfl), trivial⟩⟩⟩⟩⟩⟩⟩⟩⟩⟩⟩⟩⟩⟩
theorem o_zk_L_law_27 {l : Launch} {P : zP} : zAll l P zML (zMu q_L_law) 432 zk_L_law_27 := ⟨(show zSim l P zML (zMu q_L_law) 432 (2, 433, 3, 0, (Int.ofNat 0), []) from zs_iload_n dL_law_432 rfl), ⟨(show zSim l P zML (zMu q_L_law) 433 (0, 434, 0, 0, (Int.ofNat 3), []) from zs_iconst (Int32.ofNat 3) dL_law_433 (by decide +kernel) (by decide +kernel)), ⟨(show zSim l P zML (zMu q_L_law) 434 (7, 435, 0, 0, (Int.ofNat 0), []) from zs_iadd dL_law_434), ⟨(show zSim l P zML (zMu q_L_law) 435 (22, 436, 0, 0, (Int.ofNat 0), []) from zs_iald dL_law_435), ⟨(show zSim l P zML (zMu q_L_law) 436 (2, 437, 0, 2, (Int.ofNat 0), []) from zs_aload_n dL_law_436 rfl), ⟨(show zSim l P zML (zMu q_L_law) 437 (2, 438, 3, 0, (Int.ofNat 0), []) from zs_iload_n dL_law_437 rfl), ⟨(show zSim l P zML (zMu q_L_law) 438 (0, 439, 0, 0, (Int.ofNat 4), []) from zs_iconst (Int32.ofNat 4) dL_law_438 (by decide +kernel) (by decide +kernel)), ⟨(show zSim l P zML (zMu q_L_law) 439 (7, 440, 0, 0, (Int.ofNat 0), []) from zs_iadd dL_law_439), ⟨(show zSim l P zML (zMu q_L_law) 440 (22, 441, 0, 0, (Int.ofNat 0), []) from zs_iald dL_law_440), ⟨(show zSim l P zML (zMu q_L_law) 441 (2, 442, 0, 2, (Int.ofNat 0), []) from zs_aload_n dL_law_441 rfl), ⟨(show zSim l P zML (zMu q_L_law) 442 (2, 443, 3, 0, (Int.ofNat 0), []) from zs_iload_n dL_law_442 rfl), ⟨(show zSim l P zML (zMu q_L_law) 443 (0, 444, 0, 0, (Int.ofNat 5), []) from zs_iconst (Int32.ofNat 5) dL_law_443 (by decide +kernel) (by decide +kernel)), ⟨(show zSim l P zML (zMu q_L_law) 444 (7, 445, 0, 0, (Int.ofNat 0), []) from zs_iadd dL_law_444), ⟨(show zSim l P zML (zMu q_L_law) 445 (22, 446, 0, 0, (Int.ofNat 0), []) from zs_iald dL_law_445), ⟨(show zSim l P zML (zMu q_L_law) 446 (29, 449, 172, 6, (Int.ofNat 11), [((Int.ofNat 0), 8)]) from zs_callV 11 q_X11_pour m_X11_pour (Nat.le_of_ble_eq_true rfl) dL_law_446 rfl (xvc_11) w_1355 w_1356 w_1357 w_1354 w_625 h_X11_pour), trivial⟩⟩⟩⟩⟩⟩⟩⟩⟩⟩⟩⟩⟩⟩⟩
theorem o_zk_L_law_28 {l : Launch} {P : zP} : zAll l P zML (zMu q_L_law) 448 zk_L_law_28 := ⟨(show zSim l P zML (zMu q_L_law) 449 (15, 450, 0, 0, (Int.ofNat 0), []) from zs_pop dL_law_449), ⟨(show zSim l P zML (zMu q_L_law) 450 (2, 451, 2, 2, (Int.ofNat 0), []) from zs_aload_n dL_law_450 rfl), ⟨(show zSim l P zML (zMu q_L_law) 451 (2, 452, 0, 2, (Int.ofNat 0), []) from zs_aload_n dL_law_451 rfl), ⟨(show zSim l P zML (zMu q_L_law) 452 (2, 453, 3, 0, (Int.ofNat 0), []) from zs_iload_n dL_law_452 rfl), ⟨(show zSim l P zML (zMu q_L_law) 453 (0, 454, 0, 0, (Int.ofNat 1), []) from zs_iconst (Int32.ofNat 1) dL_law_453 (by decide +kernel) (by decide +kernel)), ⟨(show zSim l P zML (zMu q_L_law) 454 (7, 455, 0, 0, (Int.ofNat 0), []) from zs_iadd dL_law_454), ⟨(show zSim l P zML (zMu q_L_law) 455 (22, 456, 0, 0, (Int.ofNat 0), []) from zs_iald dL_law_455), ⟨(show zSim l P zML (zMu q_L_law) 456 (2, 457, 0, 2, (Int.ofNat 0), []) from zs_aload_n dL_law_456 rfl), ⟨(show zSim l P zML (zMu q_L_law) 457 (2, 458, 3, 0, (Int.ofNat 0), []) from zs_iload_n dL_law_457 rfl), ⟨(show zSim l P zML (zMu q_L_law) 458 (0, 459, 0, 0, (Int.ofNat 2), []) from zs_iconst (Int32.ofNat 2) dL_law_458 (by decide +kernel) (by decide +kernel)), ⟨(show zSim l P zML (zMu q_L_law) 459 (7, 460, 0, 0, (Int.ofNat 0), []) from zs_iadd dL_law_459), ⟨(show zSim l P zML (zMu q_L_law) 460 (22, 461, 0, 0, (Int.ofNat 0), []) from zs_iald dL_law_460), ⟨(show zSim l P zML (zMu q_L_law) 461 (2, 462, 0, 2, (Int.ofNat 0), []) from zs_aload_n dL_law_461 rfl), ⟨(show zSim l P zML (zMu q_L_law) 462 (2, 463, 3, 0, (Int.ofNat 0), []) from zs_iload_n dL_law_462 rfl), ⟨(show zSim l P zML (zMu q_L_law) 463 (0, 464, 0, 0, (Int.ofNat 3), []) from zs_iconst (Int32.ofNat 3) dL_law_463 (by decide +kernel) (by decide +kernel)), trivial⟩⟩⟩⟩⟩⟩⟩⟩⟩⟩⟩⟩⟩⟩⟩
theorem o_zk_L_law_29 {l : Launch} {P : zP} : zAll l P zML (zMu q_L_law) 464 zk_L_law_29 := ⟨(show zSim l P zML (zMu q_L_law) 464 (7, 465, 0, 0, (Int.ofNat 0), []) from zs_iadd dL_law_464), ⟨(show zSim l P zML (zMu q_L_law) 465 (22, 466, 0, 0, (Int.ofNat 0), []) from zs_iald dL_law_465), ⟨(show zSim l P zML (zMu q_L_law) 466 (2, 467, 0, 2, (Int.ofNat 0), []) from zs_aload_n dL_law_466 rfl), ⟨(show zSim l P zML (zMu q_L_law) 467 (2, 468, 3, 0, (Int.ofNat 0), []) from zs_iload_n dL_law_467 rfl), ⟨(show zSim l P zML (zMu q_L_law) 468 (0, 469, 0, 0, (Int.ofNat 4), []) from zs_iconst (Int32.ofNat 4) dL_law_468 (by decide +kernel) (by decide +kernel)), ⟨(show zSim l P zML (zMu q_L_law) 469 (7, 470, 0, 0, (Int.ofNat 0), []) from zs_iadd dL_law_469), ⟨(show zSim l P zML (zMu q_L_law) 470 (22, 471, 0, 0, (Int.ofNat 0), []) from zs_iald dL_law_470), ⟨(show zSim l P zML (zMu q_L_law) 471 (2, 472, 0, 2, (Int.ofNat 0), []) from zs_aload_n dL_law_471 rfl), ⟨(show zSim l P zML (zMu q_L_law) 472 (2, 473, 3, 0, (Int.ofNat 0), []) from zs_iload_n dL_law_472 rfl), ⟨(show zSim l P zML (zMu q_L_law) 473 (0, 474, 0, 0, (Int.ofNat 5), []) from zs_iconst (Int32.ofNat 5) dL_law_473 (by decide +kernel) (by decide +kernel)), ⟨(show zSim l P zML (zMu q_L_law) 474 (7, 475, 0, 0, (Int.ofNat 0), []) from zs_iadd dL_law_474), ⟨(show zSim l P zML (zMu q_L_law) 475 (22, 476, 0, 0, (Int.ofNat 0), []) from zs_iald dL_law_475), ⟨(show zSim l P zML (zMu q_L_law) 476 (29, 479, 291, 6, (Int.ofNat 12), [((Int.ofNat 0), 9)]) from zs_callV 12 q_X12_pour m_X12_pour (Nat.le_of_ble_eq_true rfl) dL_law_476 rfl (xvc_12) w_1359 w_1360 w_1361 w_1358 w_853 h_X12_pour), ⟨(show zSim l P zML (zMu q_L_law) 479 (15, 480, 0, 0, (Int.ofNat 0), []) from zs_pop dL_law_479), trivial⟩⟩⟩⟩⟩⟩⟩⟩⟩⟩⟩⟩⟩⟩
theorem o_zk_L_law_30 {l : Launch} {P : zP} : zAll l P zML (zMu q_L_law) 480 zk_L_law_30 := ⟨(show zSim l P zML (zMu q_L_law) 480 (1, 1750, 0, 0, (Int.ofNat 0), []) from zs_goto 1750 dL_law_480 (by decide +kernel)), ⟨(show zSim l P zML (zMu q_L_law) 483 (2, 484, 1, 2, (Int.ofNat 0), []) from zs_aload_n dL_law_483 rfl), ⟨(show zSim l P zML (zMu q_L_law) 484 (2, 485, 0, 2, (Int.ofNat 0), []) from zs_aload_n dL_law_484 rfl), ⟨(show zSim l P zML (zMu q_L_law) 485 (2, 486, 3, 0, (Int.ofNat 0), []) from zs_iload_n dL_law_485 rfl), ⟨(show zSim l P zML (zMu q_L_law) 486 (0, 487, 0, 0, (Int.ofNat 1), []) from zs_iconst (Int32.ofNat 1) dL_law_486 (by decide +kernel) (by decide +kernel)), ⟨(show zSim l P zML (zMu q_L_law) 487 (7, 488, 0, 0, (Int.ofNat 0), []) from zs_iadd dL_law_487), ⟨(show zSim l P zML (zMu q_L_law) 488 (22, 489, 0, 0, (Int.ofNat 0), []) from zs_iald dL_law_488), ⟨(show zSim l P zML (zMu q_L_law) 489 (2, 490, 0, 2, (Int.ofNat 0), []) from zs_aload_n dL_law_489 rfl), ⟨(show zSim l P zML (zMu q_L_law) 490 (2, 491, 3, 0, (Int.ofNat 0), []) from zs_iload_n dL_law_490 rfl), ⟨(show zSim l P zML (zMu q_L_law) 491 (0, 492, 0, 0, (Int.ofNat 2), []) from zs_iconst (Int32.ofNat 2) dL_law_491 (by decide +kernel) (by decide +kernel)), ⟨(show zSim l P zML (zMu q_L_law) 492 (7, 493, 0, 0, (Int.ofNat 0), []) from zs_iadd dL_law_492), ⟨(show zSim l P zML (zMu q_L_law) 493 (22, 494, 0, 0, (Int.ofNat 0), []) from zs_iald dL_law_493), ⟨(show zSim l P zML (zMu q_L_law) 494 (2, 495, 0, 2, (Int.ofNat 0), []) from zs_aload_n dL_law_494 rfl), ⟨(show zSim l P zML (zMu q_L_law) 495 (2, 496, 3, 0, (Int.ofNat 0), []) from zs_iload_n dL_law_495 rfl), trivial⟩⟩⟩⟩⟩⟩⟩⟩⟩⟩⟩⟩⟩⟩
theorem o_zk_L_law_31 {l : Launch} {P : zP} : zAll l P zML (zMu q_L_law) 496 zk_L_law_31 := ⟨(show zSim l P zML (zMu q_L_law) 496 (0, 497, 0, 0, (Int.ofNat 3), []) from zs_iconst (Int32.ofNat 3) dL_law_496 (by decide +kernel) (by decide +kernel)), ⟨(show zSim l P zML (zMu q_L_law) 497 (7, 498, 0, 0, (Int.ofNat 0), []) from zs_iadd dL_law_497), ⟨(show zSim l P zML (zMu q_L_law) 498 (22, 499, 0, 0, (Int.ofNat 0), []) from zs_iald dL_law_498), ⟨(show zSim l P zML (zMu q_L_law) 499 (2, 500, 0, 2, (Int.ofNat 0), []) from zs_aload_n dL_law_499 rfl), ⟨(show zSim l P zML (zMu q_L_law) 500 (2, 501, 3, 0, (Int.ofNat 0), []) from zs_iload_n dL_law_500 rfl), ⟨(show zSim l P zML (zMu q_L_law) 501 (0, 502, 0, 0, (Int.ofNat 4), []) from zs_iconst (Int32.ofNat 4) dL_law_501 (by decide +kernel) (by decide +kernel)), ⟨(show zSim l P zML (zMu q_L_law) 502 (7, 503, 0, 0, (Int.ofNat 0), []) from zs_iadd dL_law_502), ⟨(show zSim l P zML (zMu q_L_law) 503 (22, 504, 0, 0, (Int.ofNat 0), []) from zs_iald dL_law_503), ⟨(show zSim l P zML (zMu q_L_law) 504 (2, 505, 0, 2, (Int.ofNat 0), []) from zs_aload_n dL_law_504 rfl), ⟨(show zSim l P zML (zMu q_L_law) 505 (2, 506, 3, 0, (Int.ofNat 0), []) from zs_iload_n dL_law_505 rfl), ⟨(show zSim l P zML (zMu q_L_law) 506 (0, 507, 0, 0, (Int.ofNat 5), []) from zs_iconst (Int32.ofNat 5) dL_law_506 (by decide +kernel) (by decide +kernel)), ⟨(show zSim l P zML (zMu q_L_law) 507 (7, 508, 0, 0, (Int.ofNat 0), []) from zs_iadd dL_law_507), ⟨(show zSim l P zML (zMu q_L_law) 508 (22, 509, 0, 0, (Int.ofNat 0), []) from zs_iald dL_law_508), ⟨(show zSim l P zML (zMu q_L_law) 509 (29, 512, 155, 6, (Int.ofNat 11), [((Int.ofNat 0), 6)]) from zs_callV 11 q_X11_feed m_X11_feed (Nat.le_of_ble_eq_true rfl) dL_law_509 rfl (xvc_11) w_1363 w_1364 w_1365 w_1362 w_625 h_X11_feed), trivial⟩⟩⟩⟩⟩⟩⟩⟩⟩⟩⟩⟩⟩⟩
theorem o_zk_L_law_32 {l : Launch} {P : zP} : zAll l P zML (zMu q_L_law) 512 zk_L_law_32 := ⟨(show zSim l P zML (zMu q_L_law) 512 (15, 513, 0, 0, (Int.ofNat 0), []) from zs_pop dL_law_512), ⟨(show zSim l P zML (zMu q_L_law) 513 (2, 514, 2, 2, (Int.ofNat 0), []) from zs_aload_n dL_law_513 rfl), ⟨(show zSim l P zML (zMu q_L_law) 514 (2, 515, 0, 2, (Int.ofNat 0), []) from zs_aload_n dL_law_514 rfl), ⟨(show zSim l P zML (zMu q_L_law) 515 (2, 516, 3, 0, (Int.ofNat 0), []) from zs_iload_n dL_law_515 rfl), ⟨(show zSim l P zML (zMu q_L_law) 516 (0, 517, 0, 0, (Int.ofNat 1), []) from zs_iconst (Int32.ofNat 1) dL_law_516 (by decide +kernel) (by decide +kernel)), ⟨(show zSim l P zML (zMu q_L_law) 517 (7, 518, 0, 0, (Int.ofNat 0), []) from zs_iadd dL_law_517), ⟨(show zSim l P zML (zMu q_L_law) 518 (22, 519, 0, 0, (Int.ofNat 0), []) from zs_iald dL_law_518), ⟨(show zSim l P zML (zMu q_L_law) 519 (2, 520, 0, 2, (Int.ofNat 0), []) from zs_aload_n dL_law_519 rfl), ⟨(show zSim l P zML (zMu q_L_law) 520 (2, 521, 3, 0, (Int.ofNat 0), []) from zs_iload_n dL_law_520 rfl), ⟨(show zSim l P zML (zMu q_L_law) 521 (0, 522, 0, 0, (Int.ofNat 2), []) from zs_iconst (Int32.ofNat 2) dL_law_521 (by decide +kernel) (by decide +kernel)), ⟨(show zSim l P zML (zMu q_L_law) 522 (7, 523, 0, 0, (Int.ofNat 0), []) from zs_iadd dL_law_522), ⟨(show zSim l P zML (zMu q_L_law) 523 (22, 524, 0, 0, (Int.ofNat 0), []) from zs_iald dL_law_523), ⟨(show zSim l P zML (zMu q_L_law) 524 (2, 525, 0, 2, (Int.ofNat 0), []) from zs_aload_n dL_law_524 rfl), ⟨(show zSim l P zML (zMu q_L_law) 525 (2, 526, 3, 0, (Int.ofNat 0), []) from zs_iload_n dL_law_525 rfl), ⟨(show zSim l P zML (zMu q_L_law) 526 (0, 527, 0, 0, (Int.ofNat 3), []) from zs_iconst (Int32.ofNat 3) dL_law_526 (by decide +kernel) (by decide +kernel)), ⟨(show zSim l P zML (zMu q_L_law) 527 (7, 528, 0, 0, (Int.ofNat 0), []) from zs_iadd dL_law_527), trivial⟩⟩⟩⟩⟩⟩⟩⟩⟩⟩⟩⟩⟩⟩⟩⟩
theorem o_zk_L_law_33 {l : Launch} {P : zP} : zAll l P zML (zMu q_L_law) 528 zk_L_law_33 := ⟨(show zSim l P zML (zMu q_L_law) 528 (22, 529, 0, 0, (Int.ofNat 0), []) from zs_iald dL_law_528), ⟨(show zSim l P zML (zMu q_L_law) 529 (2, 530, 0, 2, (Int.ofNat 0), []) from zs_aload_n dL_law_529 rfl), ⟨(show zSim l P zML (zMu q_L_law) 530 (2, 531, 3, 0, (Int.ofNat 0), []) from zs_iload_n dL_law_530 rfl), ⟨(show zSim l P zML (zMu q_L_law) 531 (0, 532, 0, 0, (Int.ofNat 4), []) from zs_iconst (Int32.ofNat 4) dL_law_531 (by decide +kernel) (by decide +kernel)), ⟨(show zSim l P zML (zMu q_L_law) 532 (7, 533, 0, 0, (Int.ofNat 0), []) from zs_iadd dL_law_532), ⟨(show zSim l P zML (zMu q_L_law) 533 (22, 534, 0, 0, (Int.ofNat 0), []) from zs_iald dL_law_533), ⟨(show zSim l P zML (zMu q_L_law) 534 (2, 535, 0, 2, (Int.ofNat 0), []) from zs_aload_n dL_law_534 rfl), ⟨(show zSim l P zML (zMu q_L_law) 535 (2, 536, 3, 0, (Int.ofNat 0), []) from zs_iload_n dL_law_535 rfl), ⟨(show zSim l P zML (zMu q_L_law) 536 (0, 537, 0, 0, (Int.ofNat 5), []) from zs_iconst (Int32.ofNat 5) dL_law_536 (by decide +kernel) (by decide +kernel)), ⟨(show zSim l P zML (zMu q_L_law) 537 (7, 538, 0, 0, (Int.ofNat 0), []) from zs_iadd dL_law_537), ⟨(show zSim l P zML (zMu q_L_law) 538 (22, 539, 0, 0, (Int.ofNat 0), []) from zs_iald dL_law_538), ⟨(show zSim l P zML (zMu q_L_law) 539 (29, 542, 227, 6, (Int.ofNat 12), [((Int.ofNat 0), 6)]) from zs_callV 12 q_X12_feed m_X12_feed (Nat.le_of_ble_eq_true rfl) dL_law_539 rfl (xvc_12) w_1367 w_1368 w_1369 w_1366 w_853 h_X12_feed), ⟨(show zSim l P zML (zMu q_L_law) 542 (15, 543, 0, 0, (Int.ofNat 0), []) from zs_pop dL_law_542), ⟨(show zSim l P zML (zMu q_L_law) 543 (1, 1750, 0, 0, (Int.ofNat 0), []) from zs_goto 1750 dL_law_543 (by decide +kernel)), trivial⟩⟩⟩⟩⟩⟩⟩⟩⟩⟩⟩⟩⟩⟩
theorem o_zk_L_law_34 {l : Launch} {P : zP} : zAll l P zML (zMu q_L_law) 544 zk_L_law_34 := ⟨(show zSim l P zML (zMu q_L_law) 546 (2, 547, 1, 2, (Int.ofNat 0), []) from zs_aload_n dL_law_546 rfl), ⟨(show zSim l P zML (zMu q_L_law) 547 (2, 548, 0, 2, (Int.ofNat 0), []) from zs_aload_n dL_law_547 rfl), ⟨(show zSim l P zML (zMu q_L_law) 548 (2, 549, 3, 0, (Int.ofNat 0), []) from zs_iload_n dL_law_548 rfl), ⟨(show zSim l P zML (zMu q_L_law) 549 (0, 550, 0, 0, (Int.ofNat 1), []) from zs_iconst (Int32.ofNat 1) dL_law_549 (by decide +kernel) (by decide +kernel)), ⟨(show zSim l P zML (zMu q_L_law) 550 (7, 551, 0, 0, (Int.ofNat 0), []) from zs_iadd dL_law_550), ⟨(show zSim l P zML (zMu q_L_law) 551 (22, 552, 0, 0, (Int.ofNat 0), []) from zs_iald dL_law_551), ⟨(show zSim l P zML (zMu q_L_law) 552 (29, 555, 162, 2, (Int.ofNat 11), [((Int.ofNat 0), 4)]) from zs_callV 11 q_X11_land m_X11_land (Nat.le_of_ble_eq_true rfl) dL_law_552 rfl (xvc_11) w_1371 w_1372 w_1373 w_1370 w_625 h_X11_land), ⟨(show zSim l P zML (zMu q_L_law) 555 (15, 556, 0, 0, (Int.ofNat 0), []) from zs_pop dL_law_555), ⟨(show zSim l P zML (zMu q_L_law) 556 (2, 557, 2, 2, (Int.ofNat 0), []) from zs_aload_n dL_law_556 rfl), ⟨(show zSim l P zML (zMu q_L_law) 557 (2, 558, 0, 2, (Int.ofNat 0), []) from zs_aload_n dL_law_557 rfl), ⟨(show zSim l P zML (zMu q_L_law) 558 (2, 559, 3, 0, (Int.ofNat 0), []) from zs_iload_n dL_law_558 rfl), ⟨(show zSim l P zML (zMu q_L_law) 559 (0, 560, 0, 0, (Int.ofNat 1), []) from zs_iconst (Int32.ofNat 1) dL_law_559 (by decide +kernel) (by decide +kernel)), trivial⟩⟩⟩⟩⟩⟩⟩⟩⟩⟩⟩⟩
theorem o_zk_L_law_35 {l : Launch} {P : zP} : zAll l P zML (zMu q_L_law) 560 zk_L_law_35 := ⟨(show zSim l P zML (zMu q_L_law) 560 (7, 561, 0, 0, (Int.ofNat 0), []) from zs_iadd dL_law_560), ⟨(show zSim l P zML (zMu q_L_law) 561 (22, 562, 0, 0, (Int.ofNat 0), []) from zs_iald dL_law_561), ⟨(show zSim l P zML (zMu q_L_law) 562 (29, 565, 268, 2, (Int.ofNat 12), [((Int.ofNat 0), 3)]) from zs_callV 12 q_X12_land m_X12_land (Nat.le_of_ble_eq_true rfl) dL_law_562 rfl (xvc_12) w_1375 w_1376 w_1377 w_1374 w_853 h_X12_land), ⟨(show zSim l P zML (zMu q_L_law) 565 (15, 566, 0, 0, (Int.ofNat 0), []) from zs_pop dL_law_565), ⟨(show zSim l P zML (zMu q_L_law) 566 (1, 1750, 0, 0, (Int.ofNat 0), []) from zs_goto 1750 dL_law_566 (by decide +kernel)), ⟨(show zSim l P zML (zMu q_L_law) 569 (2, 570, 1, 2, (Int.ofNat 0), []) from zs_aload_n dL_law_569 rfl), ⟨(show zSim l P zML (zMu q_L_law) 570 (2, 571, 0, 2, (Int.ofNat 0), []) from zs_aload_n dL_law_570 rfl), ⟨(show zSim l P zML (zMu q_L_law) 571 (2, 572, 3, 0, (Int.ofNat 0), []) from zs_iload_n dL_law_571 rfl), ⟨(show zSim l P zML (zMu q_L_law) 572 (0, 573, 0, 0, (Int.ofNat 1), []) from zs_iconst (Int32.ofNat 1) dL_law_572 (by decide +kernel) (by decide +kernel)), ⟨(show zSim l P zML (zMu q_L_law) 573 (7, 574, 0, 0, (Int.ofNat 0), []) from zs_iadd dL_law_573), ⟨(show zSim l P zML (zMu q_L_law) 574 (22, 575, 0, 0, (Int.ofNat 0), []) from zs_iald dL_law_574), ⟨(show zSim l P zML (zMu q_L_law) 575 (29, 578, 170, 2, (Int.ofNat 11), [((Int.ofNat 0), 3)]) from zs_callV 11 q_X11_orders m_X11_orders (Nat.le_of_ble_eq_true rfl) dL_law_575 rfl (xvc_11) w_1379 w_1380 w_1381 w_1378 w_625 h_X11_orders), trivial⟩⟩⟩⟩⟩⟩⟩⟩⟩⟩⟩⟩
theorem o_zk_L_law_36 {l : Launch} {P : zP} : zAll l P zML (zMu q_L_law) 576 zk_L_law_36 := ⟨(show zSim l P zML (zMu q_L_law) 578 (15, 579, 0, 0, (Int.ofNat 0), []) from zs_pop dL_law_578), ⟨(show zSim l P zML (zMu q_L_law) 579 (2, 580, 2, 2, (Int.ofNat 0), []) from zs_aload_n dL_law_579 rfl), ⟨(show zSim l P zML (zMu q_L_law) 580 (2, 581, 0, 2, (Int.ofNat 0), []) from zs_aload_n dL_law_580 rfl), ⟨(show zSim l P zML (zMu q_L_law) 581 (2, 582, 3, 0, (Int.ofNat 0), []) from zs_iload_n dL_law_581 rfl), ⟨(show zSim l P zML (zMu q_L_law) 582 (0, 583, 0, 0, (Int.ofNat 1), []) from zs_iconst (Int32.ofNat 1) dL_law_582 (by decide +kernel) (by decide +kernel)), ⟨(show zSim l P zML (zMu q_L_law) 583 (7, 584, 0, 0, (Int.ofNat 0), []) from zs_iadd dL_law_583), ⟨(show zSim l P zML (zMu q_L_law) 584 (22, 585, 0, 0, (Int.ofNat 0), []) from zs_iald dL_law_584), ⟨(show zSim l P zML (zMu q_L_law) 585 (29, 588, 289, 2, (Int.ofNat 12), [((Int.ofNat 0), 3)]) from zs_callV 12 q_X12_orders m_X12_orders (Nat.le_of_ble_eq_true rfl) dL_law_585 rfl (xvc_12) w_1383 w_1384 w_1385 w_1382 w_853 h_X12_orders), ⟨(show zSim l P zML (zMu q_L_law) 588 (15, 589, 0, 0, (Int.ofNat 0), []) from zs_pop dL_law_588), ⟨(show zSim l P zML (zMu q_L_law) 589 (1, 1750, 0, 0, (Int.ofNat 0), []) from zs_goto 1750 dL_law_589 (by decide +kernel)), trivial⟩⟩⟩⟩⟩⟩⟩⟩⟩⟩
theorem o_zk_L_law_37 {l : Launch} {P : zP} : zAll l P zML (zMu q_L_law) 592 zk_L_law_37 := ⟨(show zSim l P zML (zMu q_L_law) 592 (2, 593, 1, 2, (Int.ofNat 0), []) from zs_aload_n dL_law_592 rfl), ⟨(show zSim l P zML (zMu q_L_law) 593 (2, 594, 0, 2, (Int.ofNat 0), []) from zs_aload_n dL_law_593 rfl), ⟨(show zSim l P zML (zMu q_L_law) 594 (2, 595, 3, 0, (Int.ofNat 0), []) from zs_iload_n dL_law_594 rfl), ⟨(show zSim l P zML (zMu q_L_law) 595 (0, 596, 0, 0, (Int.ofNat 1), []) from zs_iconst (Int32.ofNat 1) dL_law_595 (by decide +kernel) (by decide +kernel)), ⟨(show zSim l P zML (zMu q_L_law) 596 (7, 597, 0, 0, (Int.ofNat 0), []) from zs_iadd dL_law_596), ⟨(show zSim l P zML (zMu q_L_law) 597 (22, 598, 0, 0, (Int.ofNat 0), []) from zs_iald dL_law_597), ⟨(show zSim l P zML (zMu q_L_law) 598 (29, 601, 154, 2, (Int.ofNat 11), [((Int.ofNat 0), 2)]) from zs_callV 11 q_X11_fault m_X11_fault (Nat.le_of_ble_eq_true rfl) dL_law_598 rfl (xvc_11) w_1387 w_1388 w_1389 w_1386 w_625 h_X11_fault), ⟨(show zSim l P zML (zMu q_L_law) 601 (15, 602, 0, 0, (Int.ofNat 0), []) from zs_pop dL_law_601), ⟨(show zSim l P zML (zMu q_L_law) 602 (2, 603, 2, 2, (Int.ofNat 0), []) from zs_aload_n dL_law_602 rfl), ⟨(show zSim l P zML (zMu q_L_law) 603 (2, 604, 0, 2, (Int.ofNat 0), []) from zs_aload_n dL_law_603 rfl), ⟨(show zSim l P zML (zMu q_L_law) 604 (2, 605, 3, 0, (Int.ofNat 0), []) from zs_iload_n dL_law_604 rfl), ⟨(show zSim l P zML (zMu q_L_law) 605 (0, 606, 0, 0, (Int.ofNat 1), []) from zs_iconst (Int32.ofNat 1) dL_law_605 (by decide +kernel) (by decide +kernel)), ⟨(show zSim l P zML (zMu q_L_law) 606 (7, 607, 0, 0, (Int.ofNat 0), []) from zs_iadd dL_law_606), ⟨(show zSim l P zML (zMu q_L_law) 607 (22, 608, 0, 0, (Int.ofNat 0), []) from zs_iald dL_law_607), trivial⟩⟩⟩⟩⟩⟩⟩⟩⟩⟩⟩⟩⟩⟩
theorem o_zk_L_law_38 {l : Launch} {P : zP} : zAll l P zML (zMu q_L_law) 608 zk_L_law_38 := ⟨(show zSim l P zML (zMu q_L_law) 608 (29, 611, 226, 2, (Int.ofNat 12), [((Int.ofNat 0), 2)]) from zs_callV 12 q_X12_fault m_X12_fault (Nat.le_of_ble_eq_true rfl) dL_law_608 rfl (xvc_12) w_1391 w_1392 w_1393 w_1390 w_853 h_X12_fault), ⟨(show zSim l P zML (zMu q_L_law) 611 (15, 612, 0, 0, (Int.ofNat 0), []) from zs_pop dL_law_611), ⟨(show zSim l P zML (zMu q_L_law) 612 (1, 1750, 0, 0, (Int.ofNat 0), []) from zs_goto 1750 dL_law_612 (by decide +kernel)), ⟨(show zSim l P zML (zMu q_L_law) 615 (2, 616, 1, 2, (Int.ofNat 0), []) from zs_aload_n dL_law_615 rfl), ⟨(show zSim l P zML (zMu q_L_law) 616 (2, 617, 0, 2, (Int.ofNat 0), []) from zs_aload_n dL_law_616 rfl), ⟨(show zSim l P zML (zMu q_L_law) 617 (2, 618, 3, 0, (Int.ofNat 0), []) from zs_iload_n dL_law_617 rfl), ⟨(show zSim l P zML (zMu q_L_law) 618 (0, 619, 0, 0, (Int.ofNat 1), []) from zs_iconst (Int32.ofNat 1) dL_law_618 (by decide +kernel) (by decide +kernel)), ⟨(show zSim l P zML (zMu q_L_law) 619 (7, 620, 0, 0, (Int.ofNat 0), []) from zs_iadd dL_law_619), ⟨(show zSim l P zML (zMu q_L_law) 620 (22, 621, 0, 0, (Int.ofNat 0), []) from zs_iald dL_law_620), ⟨(show zSim l P zML (zMu q_L_law) 621 (29, 624, 163, 2, (Int.ofNat 11), [((Int.ofNat 0), 2)]) from zs_callV 11 q_X11_many m_X11_many (Nat.le_of_ble_eq_true rfl) dL_law_621 rfl (xvc_11) w_1395 w_1396 w_1397 w_1394 w_625 h_X11_many), trivial⟩⟩⟩⟩⟩⟩⟩⟩⟩⟩
theorem o_zk_L_law_39 {l : Launch} {P : zP} : zAll l P zML (zMu q_L_law) 624 zk_L_law_39 := ⟨(show zSim l P zML (zMu q_L_law) 624 (15, 625, 0, 0, (Int.ofNat 0), []) from zs_pop dL_law_624), ⟨(show zSim l P zML (zMu q_L_law) 625 (2, 626, 2, 2, (Int.ofNat 0), []) from zs_aload_n dL_law_625 rfl), ⟨(show zSim l P zML (zMu q_L_law) 626 (2, 627, 0, 2, (Int.ofNat 0), []) from zs_aload_n dL_law_626 rfl), ⟨(show zSim l P zML (zMu q_L_law) 627 (2, 628, 3, 0, (Int.ofNat 0), []) from zs_iload_n dL_law_627 rfl), ⟨(show zSim l P zML (zMu q_L_law) 628 (0, 629, 0, 0, (Int.ofNat 1), []) from zs_iconst (Int32.ofNat 1) dL_law_628 (by decide +kernel) (by decide +kernel)), ⟨(show zSim l P zML (zMu q_L_law) 629 (7, 630, 0, 0, (Int.ofNat 0), []) from zs_iadd dL_law_629), ⟨(show zSim l P zML (zMu q_L_law) 630 (22, 631, 0, 0, (Int.ofNat 0), []) from zs_iald dL_law_630), ⟨(show zSim l P zML (zMu q_L_law) 631 (29, 634, 273, 2, (Int.ofNat 12), [((Int.ofNat 0), 2)]) from zs_callV 12 q_X12_many m_X12_many (Nat.le_of_ble_eq_true rfl) dL_law_631 rfl (xvc_12) w_1399 w_1400 w_1401 w_1398 w_853 h_X12_many), ⟨(show zSim l P zML (zMu q_L_law) 634 (15, 635, 0, 0, (Int.ofNat 0), []) from zs_pop dL_law_634), ⟨(show zSim l P zML (zMu q_L_law) 635 (1, 1750, 0, 0, (Int.ofNat 0), []) from zs_goto 1750 dL_law_635 (by decide +kernel)), ⟨(show zSim l P zML (zMu q_L_law) 638 (2, 639, 1, 2, (Int.ofNat 0), []) from zs_aload_n dL_law_638 rfl), ⟨(show zSim l P zML (zMu q_L_law) 639 (2, 640, 0, 2, (Int.ofNat 0), []) from zs_aload_n dL_law_639 rfl), trivial⟩⟩⟩⟩⟩⟩⟩⟩⟩⟩⟩⟩
theorem o_zk_L_law_40 {l : Launch} {P : zP} : zAll l P zML (zMu q_L_law) 640 zk_L_law_40 := ⟨(show zSim l P zML (zMu q_L_law) 640 (2, 641, 3, 0, (Int.ofNat 0), []) from zs_iload_n dL_law_640 rfl), ⟨(show zSim l P zML (zMu q_L_law) 641 (0, 642, 0, 0, (Int.ofNat 1), []) from zs_iconst (Int32.ofNat 1) dL_law_641 (by decide +kernel) (by decide +kernel)), ⟨(show zSim l P zML (zMu q_L_law) 642 (7, 643, 0, 0, (Int.ofNat 0), []) from zs_iadd dL_law_642), ⟨(show zSim l P zML (zMu q_L_law) 643 (22, 644, 0, 0, (Int.ofNat 0), []) from zs_iald dL_law_643), ⟨(show zSim l P zML (zMu q_L_law) 644 (2, 645, 0, 2, (Int.ofNat 0), []) from zs_aload_n dL_law_644 rfl), ⟨(show zSim l P zML (zMu q_L_law) 645 (2, 646, 3, 0, (Int.ofNat 0), []) from zs_iload_n dL_law_645 rfl), ⟨(show zSim l P zML (zMu q_L_law) 646 (0, 647, 0, 0, (Int.ofNat 2), []) from zs_iconst (Int32.ofNat 2) dL_law_646 (by decide +kernel) (by decide +kernel)), ⟨(show zSim l P zML (zMu q_L_law) 647 (7, 648, 0, 0, (Int.ofNat 0), []) from zs_iadd dL_law_647), ⟨(show zSim l P zML (zMu q_L_law) 648 (22, 649, 0, 0, (Int.ofNat 0), []) from zs_iald dL_law_648), ⟨(show zSim l P zML (zMu q_L_law) 649 (2, 650, 0, 2, (Int.ofNat 0), []) from zs_aload_n dL_law_649 rfl), ⟨(show zSim l P zML (zMu q_L_law) 650 (2, 651, 3, 0, (Int.ofNat 0), []) from zs_iload_n dL_law_650 rfl), ⟨(show zSim l P zML (zMu q_L_law) 651 (0, 652, 0, 0, (Int.ofNat 3), []) from zs_iconst (Int32.ofNat 3) dL_law_651 (by decide +kernel) (by decide +kernel)), ⟨(show zSim l P zML (zMu q_L_law) 652 (7, 653, 0, 0, (Int.ofNat 0), []) from zs_iadd dL_law_652), ⟨(show zSim l P zML (zMu q_L_law) 653 (22, 654, 0, 0, (Int.ofNat 0), []) from zs_iald dL_law_653), ⟨(show zSim l P zML (zMu q_L_law) 654 (29, 657, 156, 4, (Int.ofNat 11), [((Int.ofNat 0), 5)]) from zs_callV 11 q_X11_ground m_X11_ground (Nat.le_of_ble_eq_true rfl) dL_law_654 rfl (xvc_11) w_1403 w_1404 w_1405 w_1402 w_625 h_X11_ground), trivial⟩⟩⟩⟩⟩⟩⟩⟩⟩⟩⟩⟩⟩⟩⟩
theorem o_zk_L_law_41 {l : Launch} {P : zP} : zAll l P zML (zMu q_L_law) 656 zk_L_law_41 := ⟨(show zSim l P zML (zMu q_L_law) 657 (15, 658, 0, 0, (Int.ofNat 0), []) from zs_pop dL_law_657), ⟨(show zSim l P zML (zMu q_L_law) 658 (2, 659, 2, 2, (Int.ofNat 0), []) from zs_aload_n dL_law_658 rfl), ⟨(show zSim l P zML (zMu q_L_law) 659 (2, 660, 0, 2, (Int.ofNat 0), []) from zs_aload_n dL_law_659 rfl), ⟨(show zSim l P zML (zMu q_L_law) 660 (2, 661, 3, 0, (Int.ofNat 0), []) from zs_iload_n dL_law_660 rfl), ⟨(show zSim l P zML (zMu q_L_law) 661 (0, 662, 0, 0, (Int.ofNat 1), []) from zs_iconst (Int32.ofNat 1) dL_law_661 (by decide +kernel) (by decide +kernel)), ⟨(show zSim l P zML (zMu q_L_law) 662 (7, 663, 0, 0, (Int.ofNat 0), []) from zs_iadd dL_law_662), ⟨(show zSim l P zML (zMu q_L_law) 663 (22, 664, 0, 0, (Int.ofNat 0), []) from zs_iald dL_law_663), ⟨(show zSim l P zML (zMu q_L_law) 664 (2, 665, 0, 2, (Int.ofNat 0), []) from zs_aload_n dL_law_664 rfl), ⟨(show zSim l P zML (zMu q_L_law) 665 (2, 666, 3, 0, (Int.ofNat 0), []) from zs_iload_n dL_law_665 rfl), ⟨(show zSim l P zML (zMu q_L_law) 666 (0, 667, 0, 0, (Int.ofNat 2), []) from zs_iconst (Int32.ofNat 2) dL_law_666 (by decide +kernel) (by decide +kernel)), ⟨(show zSim l P zML (zMu q_L_law) 667 (7, 668, 0, 0, (Int.ofNat 0), []) from zs_iadd dL_law_667), ⟨(show zSim l P zML (zMu q_L_law) 668 (22, 669, 0, 0, (Int.ofNat 0), []) from zs_iald dL_law_668), ⟨(show zSim l P zML (zMu q_L_law) 669 (2, 670, 0, 2, (Int.ofNat 0), []) from zs_aload_n dL_law_669 rfl), ⟨(show zSim l P zML (zMu q_L_law) 670 (2, 671, 3, 0, (Int.ofNat 0), []) from zs_iload_n dL_law_670 rfl), ⟨(show zSim l P zML (zMu q_L_law) 671 (0, 672, 0, 0, (Int.ofNat 3), []) from zs_iconst (Int32.ofNat 3) dL_law_671 (by decide +kernel) (by decide +kernel)), trivial⟩⟩⟩⟩⟩⟩⟩⟩⟩⟩⟩⟩⟩⟩⟩
theorem o_zk_L_law_42 {l : Launch} {P : zP} : zAll l P zML (zMu q_L_law) 672 zk_L_law_42 := ⟨(show zSim l P zML (zMu q_L_law) 672 (7, 673, 0, 0, (Int.ofNat 0), []) from zs_iadd dL_law_672), ⟨(show zSim l P zML (zMu q_L_law) 673 (22, 674, 0, 0, (Int.ofNat 0), []) from zs_iald dL_law_673), ⟨(show zSim l P zML (zMu q_L_law) 674 (29, 677, 233, 4, (Int.ofNat 12), [((Int.ofNat 0), 5)]) from zs_callV 12 q_X12_ground m_X12_ground (Nat.le_of_ble_eq_true rfl) dL_law_674 rfl (xvc_12) w_1407 w_1408 w_1409 w_1406 w_853 h_X12_ground), ⟨(show zSim l P zML (zMu q_L_law) 677 (15, 678, 0, 0, (Int.ofNat 0), []) from zs_pop dL_law_677), ⟨(show zSim l P zML (zMu q_L_law) 678 (1, 1750, 0, 0, (Int.ofNat 0), []) from zs_goto 1750 dL_law_678 (by decide +kernel)), ⟨(show zSim l P zML (zMu q_L_law) 681 (2, 682, 1, 2, (Int.ofNat 0), []) from zs_aload_n dL_law_681 rfl), ⟨(show zSim l P zML (zMu q_L_law) 682 (2, 683, 0, 2, (Int.ofNat 0), []) from zs_aload_n dL_law_682 rfl), ⟨(show zSim l P zML (zMu q_L_law) 683 (2, 684, 3, 0, (Int.ofNat 0), []) from zs_iload_n dL_law_683 rfl), ⟨(show zSim l P zML (zMu q_L_law) 684 (0, 685, 0, 0, (Int.ofNat 1), []) from zs_iconst (Int32.ofNat 1) dL_law_684 (by decide +kernel) (by decide +kernel)), ⟨(show zSim l P zML (zMu q_L_law) 685 (7, 686, 0, 0, (Int.ofNat 0), []) from zs_iadd dL_law_685), ⟨(show zSim l P zML (zMu q_L_law) 686 (22, 687, 0, 0, (Int.ofNat 0), []) from zs_iald dL_law_686), ⟨(show zSim l P zML (zMu q_L_law) 687 (2, 688, 0, 2, (Int.ofNat 0), []) from zs_aload_n dL_law_687 rfl), trivial⟩⟩⟩⟩⟩⟩⟩⟩⟩⟩⟩⟩
theorem o_zk_L_law_43 {l : Launch} {P : zP} : zAll l P zML (zMu q_L_law) 688 zk_L_law_43 := ⟨(show zSim l P zML (zMu q_L_law) 688 (2, 689, 3, 0, (Int.ofNat 0), []) from zs_iload_n dL_law_688 rfl), ⟨(show zSim l P zML (zMu q_L_law) 689 (0, 690, 0, 0, (Int.ofNat 2), []) from zs_iconst (Int32.ofNat 2) dL_law_689 (by decide +kernel) (by decide +kernel)), ⟨(show zSim l P zML (zMu q_L_law) 690 (7, 691, 0, 0, (Int.ofNat 0), []) from zs_iadd dL_law_690), ⟨(show zSim l P zML (zMu q_L_law) 691 (22, 692, 0, 0, (Int.ofNat 0), []) from zs_iald dL_law_691), ⟨(show zSim l P zML (zMu q_L_law) 692 (2, 693, 0, 2, (Int.ofNat 0), []) from zs_aload_n dL_law_692 rfl), ⟨(show zSim l P zML (zMu q_L_law) 693 (2, 694, 3, 0, (Int.ofNat 0), []) from zs_iload_n dL_law_693 rfl), ⟨(show zSim l P zML (zMu q_L_law) 694 (0, 695, 0, 0, (Int.ofNat 3), []) from zs_iconst (Int32.ofNat 3) dL_law_694 (by decide +kernel) (by decide +kernel)), ⟨(show zSim l P zML (zMu q_L_law) 695 (7, 696, 0, 0, (Int.ofNat 0), []) from zs_iadd dL_law_695), ⟨(show zSim l P zML (zMu q_L_law) 696 (22, 697, 0, 0, (Int.ofNat 0), []) from zs_iald dL_law_696), ⟨(show zSim l P zML (zMu q_L_law) 697 (29, 700, 148, 4, (Int.ofNat 11), [((Int.ofNat 0), 4)]) from zs_callV 11 q_X11_cell m_X11_cell (Nat.le_of_ble_eq_true rfl) dL_law_697 rfl (xvc_11) w_1411 w_1412 w_1413 w_1410 w_625 h_X11_cell), ⟨(show zSim l P zML (zMu q_L_law) 700 (15, 701, 0, 0, (Int.ofNat 0), []) from zs_pop dL_law_700), ⟨(show zSim l P zML (zMu q_L_law) 701 (2, 702, 2, 2, (Int.ofNat 0), []) from zs_aload_n dL_law_701 rfl), ⟨(show zSim l P zML (zMu q_L_law) 702 (2, 703, 0, 2, (Int.ofNat 0), []) from zs_aload_n dL_law_702 rfl), ⟨(show zSim l P zML (zMu q_L_law) 703 (2, 704, 3, 0, (Int.ofNat 0), []) from zs_iload_n dL_law_703 rfl), trivial⟩⟩⟩⟩⟩⟩⟩⟩⟩⟩⟩⟩⟩⟩
theorem o_zk_L_law_44 {l : Launch} {P : zP} : zAll l P zML (zMu q_L_law) 704 zk_L_law_44 := ⟨(show zSim l P zML (zMu q_L_law) 704 (0, 705, 0, 0, (Int.ofNat 1), []) from zs_iconst (Int32.ofNat 1) dL_law_704 (by decide +kernel) (by decide +kernel)), ⟨(show zSim l P zML (zMu q_L_law) 705 (7, 706, 0, 0, (Int.ofNat 0), []) from zs_iadd dL_law_705), ⟨(show zSim l P zML (zMu q_L_law) 706 (22, 707, 0, 0, (Int.ofNat 0), []) from zs_iald dL_law_706), ⟨(show zSim l P zML (zMu q_L_law) 707 (2, 708, 0, 2, (Int.ofNat 0), []) from zs_aload_n dL_law_707 rfl), ⟨(show zSim l P zML (zMu q_L_law) 708 (2, 709, 3, 0, (Int.ofNat 0), []) from zs_iload_n dL_law_708 rfl), ⟨(show zSim l P zML (zMu q_L_law) 709 (0, 710, 0, 0, (Int.ofNat 2), []) from zs_iconst (Int32.ofNat 2) dL_law_709 (by decide +kernel) (by decide +kernel)), ⟨(show zSim l P zML (zMu q_L_law) 710 (7, 711, 0, 0, (Int.ofNat 0), []) from zs_iadd dL_law_710), ⟨(show zSim l P zML (zMu q_L_law) 711 (22, 712, 0, 0, (Int.ofNat 0), []) from zs_iald dL_law_711), ⟨(show zSim l P zML (zMu q_L_law) 712 (2, 713, 0, 2, (Int.ofNat 0), []) from zs_aload_n dL_law_712 rfl), ⟨(show zSim l P zML (zMu q_L_law) 713 (2, 714, 3, 0, (Int.ofNat 0), []) from zs_iload_n dL_law_713 rfl), ⟨(show zSim l P zML (zMu q_L_law) 714 (0, 715, 0, 0, (Int.ofNat 3), []) from zs_iconst (Int32.ofNat 3) dL_law_714 (by decide +kernel) (by decide +kernel)), ⟨(show zSim l P zML (zMu q_L_law) 715 (7, 716, 0, 0, (Int.ofNat 0), []) from zs_iadd dL_law_715), ⟨(show zSim l P zML (zMu q_L_law) 716 (22, 717, 0, 0, (Int.ofNat 0), []) from zs_iald dL_law_716), ⟨(show zSim l P zML (zMu q_L_law) 717 (29, 720, 205, 4, (Int.ofNat 12), [((Int.ofNat 0), 4)]) from zs_callV 12 q_X12_cell m_X12_cell (Nat.le_of_ble_eq_true rfl) dL_law_717 rfl (xvc_12) w_1415 w_1416 w_1417 w_1414 w_853 h_X12_cell), trivial⟩⟩⟩⟩⟩⟩⟩⟩⟩⟩⟩⟩⟩⟩
theorem o_zk_L_law_45 {l : Launch} {P : zP} : zAll l P zML (zMu q_L_law) 720 zk_L_law_45 := ⟨(show zSim l P zML (zMu q_L_law) 720 (15, 721, 0, 0, (Int.ofNat 0), []) from zs_pop dL_law_720), ⟨(show zSim l P zML (zMu q_L_law) 721 (1, 1750, 0, 0, (Int.ofNat 0), []) from zs_goto 1750 dL_law_721 (by decide +kernel)), ⟨(show zSim l P zML (zMu q_L_law) 724 (2, 725, 1, 2, (Int.ofNat 0), []) from zs_aload_n dL_law_724 rfl), ⟨(show zSim l P zML (zMu q_L_law) 725 (2, 726, 0, 2, (Int.ofNat 0), []) from zs_aload_n dL_law_725 rfl), ⟨(show zSim l P zML (zMu q_L_law) 726 (2, 727, 3, 0, (Int.ofNat 0), []) from zs_iload_n dL_law_726 rfl), ⟨(show zSim l P zML (zMu q_L_law) 727 (0, 728, 0, 0, (Int.ofNat 1), []) from zs_iconst (Int32.ofNat 1) dL_law_727 (by decide +kernel) (by decide +kernel)), ⟨(show zSim l P zML (zMu q_L_law) 728 (7, 729, 0, 0, (Int.ofNat 0), []) from zs_iadd dL_law_728), ⟨(show zSim l P zML (zMu q_L_law) 729 (22, 730, 0, 0, (Int.ofNat 0), []) from zs_iald dL_law_729), ⟨(show zSim l P zML (zMu q_L_law) 730 (2, 731, 0, 2, (Int.ofNat 0), []) from zs_aload_n dL_law_730 rfl), ⟨(show zSim l P zML (zMu q_L_law) 731 (2, 732, 3, 0, (Int.ofNat 0), []) from zs_iload_n dL_law_731 rfl), ⟨(show zSim l P zML (zMu q_L_law) 732 (0, 733, 0, 0, (Int.ofNat 2), []) from zs_iconst (Int32.ofNat 2) dL_law_732 (by decide +kernel) (by decide +kernel)), ⟨(show zSim l P zML (zMu q_L_law) 733 (7, 734, 0, 0, (Int.ofNat 0), []) from zs_iadd dL_law_733), ⟨(show zSim l P zML (zMu q_L_law) 734 (22, 735, 0, 0, (Int.ofNat 0), []) from zs_iald dL_law_734), ⟨(show zSim l P zML (zMu q_L_law) 735 (2, 736, 0, 2, (Int.ofNat 0), []) from zs_aload_n dL_law_735 rfl), trivial⟩⟩⟩⟩⟩⟩⟩⟩⟩⟩⟩⟩⟩⟩
theorem o_zk_L_law_46 {l : Launch} {P : zP} : zAll l P zML (zMu q_L_law) 736 zk_L_law_46 := ⟨(show zSim l P zML (zMu q_L_law) 736 (2, 737, 3, 0, (Int.ofNat 0), []) from zs_iload_n dL_law_736 rfl), ⟨(show zSim l P zML (zMu q_L_law) 737 (0, 738, 0, 0, (Int.ofNat 3), []) from zs_iconst (Int32.ofNat 3) dL_law_737 (by decide +kernel) (by decide +kernel)), ⟨(show zSim l P zML (zMu q_L_law) 738 (7, 739, 0, 0, (Int.ofNat 0), []) from zs_iadd dL_law_738), ⟨(show zSim l P zML (zMu q_L_law) 739 (22, 740, 0, 0, (Int.ofNat 0), []) from zs_iald dL_law_739), ⟨(show zSim l P zML (zMu q_L_law) 740 (29, 743, 180, 4, (Int.ofNat 11), [((Int.ofNat 0), 4)]) from zs_callV 11 q_X11_shows m_X11_shows (Nat.le_of_ble_eq_true rfl) dL_law_740 rfl (xvc_11) w_1419 w_1420 w_1421 w_1418 w_625 h_X11_shows), ⟨(show zSim l P zML (zMu q_L_law) 743 (15, 744, 0, 0, (Int.ofNat 0), []) from zs_pop dL_law_743), ⟨(show zSim l P zML (zMu q_L_law) 744 (2, 745, 2, 2, (Int.ofNat 0), []) from zs_aload_n dL_law_744 rfl), ⟨(show zSim l P zML (zMu q_L_law) 745 (2, 746, 0, 2, (Int.ofNat 0), []) from zs_aload_n dL_law_745 rfl), ⟨(show zSim l P zML (zMu q_L_law) 746 (2, 747, 3, 0, (Int.ofNat 0), []) from zs_iload_n dL_law_746 rfl), ⟨(show zSim l P zML (zMu q_L_law) 747 (0, 748, 0, 0, (Int.ofNat 1), []) from zs_iconst (Int32.ofNat 1) dL_law_747 (by decide +kernel) (by decide +kernel)), ⟨(show zSim l P zML (zMu q_L_law) 748 (7, 749, 0, 0, (Int.ofNat 0), []) from zs_iadd dL_law_748), ⟨(show zSim l P zML (zMu q_L_law) 749 (22, 750, 0, 0, (Int.ofNat 0), []) from zs_iald dL_law_749), ⟨(show zSim l P zML (zMu q_L_law) 750 (2, 751, 0, 2, (Int.ofNat 0), []) from zs_aload_n dL_law_750 rfl), ⟨(show zSim l P zML (zMu q_L_law) 751 (2, 752, 3, 0, (Int.ofNat 0), []) from zs_iload_n dL_law_751 rfl), trivial⟩⟩⟩⟩⟩⟩⟩⟩⟩⟩⟩⟩⟩⟩
theorem o_zk_L_law_47 {l : Launch} {P : zP} : zAll l P zML (zMu q_L_law) 752 zk_L_law_47 := ⟨(show zSim l P zML (zMu q_L_law) 752 (0, 753, 0, 0, (Int.ofNat 2), []) from zs_iconst (Int32.ofNat 2) dL_law_752 (by decide +kernel) (by decide +kernel)), ⟨(show zSim l P zML (zMu q_L_law) 753 (7, 754, 0, 0, (Int.ofNat 0), []) from zs_iadd dL_law_753), ⟨(show zSim l P zML (zMu q_L_law) 754 (22, 755, 0, 0, (Int.ofNat 0), []) from zs_iald dL_law_754), ⟨(show zSim l P zML (zMu q_L_law) 755 (2, 756, 0, 2, (Int.ofNat 0), []) from zs_aload_n dL_law_755 rfl), ⟨(show zSim l P zML (zMu q_L_law) 756 (2, 757, 3, 0, (Int.ofNat 0), []) from zs_iload_n dL_law_756 rfl), ⟨(show zSim l P zML (zMu q_L_law) 757 (0, 758, 0, 0, (Int.ofNat 3), []) from zs_iconst (Int32.ofNat 3) dL_law_757 (by decide +kernel) (by decide +kernel)), ⟨(show zSim l P zML (zMu q_L_law) 758 (7, 759, 0, 0, (Int.ofNat 0), []) from zs_iadd dL_law_758), ⟨(show zSim l P zML (zMu q_L_law) 759 (22, 760, 0, 0, (Int.ofNat 0), []) from zs_iald dL_law_759), ⟨(show zSim l P zML (zMu q_L_law) 760 (29, 763, 310, 4, (Int.ofNat 12), [((Int.ofNat 0), 4)]) from zs_callV 12 q_X12_shows m_X12_shows (Nat.le_of_ble_eq_true rfl) dL_law_760 rfl (xvc_12) w_1423 w_1424 w_1425 w_1422 w_853 h_X12_shows), ⟨(show zSim l P zML (zMu q_L_law) 763 (15, 764, 0, 0, (Int.ofNat 0), []) from zs_pop dL_law_763), ⟨(show zSim l P zML (zMu q_L_law) 764 (1, 1750, 0, 0, (Int.ofNat 0), []) from zs_goto 1750 dL_law_764 (by decide +kernel)), ⟨(show zSim l P zML (zMu q_L_law) 767 (2, 768, 1, 2, (Int.ofNat 0), []) from zs_aload_n dL_law_767 rfl), trivial⟩⟩⟩⟩⟩⟩⟩⟩⟩⟩⟩⟩
theorem o_zk_L_law_48 {l : Launch} {P : zP} : zAll l P zML (zMu q_L_law) 768 zk_L_law_48 := ⟨(show zSim l P zML (zMu q_L_law) 768 (2, 769, 0, 2, (Int.ofNat 0), []) from zs_aload_n dL_law_768 rfl), ⟨(show zSim l P zML (zMu q_L_law) 769 (2, 770, 3, 0, (Int.ofNat 0), []) from zs_iload_n dL_law_769 rfl), ⟨(show zSim l P zML (zMu q_L_law) 770 (0, 771, 0, 0, (Int.ofNat 1), []) from zs_iconst (Int32.ofNat 1) dL_law_770 (by decide +kernel) (by decide +kernel)), ⟨(show zSim l P zML (zMu q_L_law) 771 (7, 772, 0, 0, (Int.ofNat 0), []) from zs_iadd dL_law_771), ⟨(show zSim l P zML (zMu q_L_law) 772 (22, 773, 0, 0, (Int.ofNat 0), []) from zs_iald dL_law_772), ⟨(show zSim l P zML (zMu q_L_law) 773 (2, 774, 0, 2, (Int.ofNat 0), []) from zs_aload_n dL_law_773 rfl), ⟨(show zSim l P zML (zMu q_L_law) 774 (2, 775, 3, 0, (Int.ofNat 0), []) from zs_iload_n dL_law_774 rfl), ⟨(show zSim l P zML (zMu q_L_law) 775 (0, 776, 0, 0, (Int.ofNat 2), []) from zs_iconst (Int32.ofNat 2) dL_law_775 (by decide +kernel) (by decide +kernel)), ⟨(show zSim l P zML (zMu q_L_law) 776 (7, 777, 0, 0, (Int.ofNat 0), []) from zs_iadd dL_law_776), ⟨(show zSim l P zML (zMu q_L_law) 777 (22, 778, 0, 0, (Int.ofNat 0), []) from zs_iald dL_law_777), ⟨(show zSim l P zML (zMu q_L_law) 778 (29, 781, 151, 3, (Int.ofNat 11), [((Int.ofNat 0), 3)]) from zs_callV 11 q_X11_company m_X11_company (Nat.le_of_ble_eq_true rfl) dL_law_778 rfl (xvc_11) w_1427 w_1428 w_1429 w_1426 w_625 h_X11_company), ⟨(show zSim l P zML (zMu q_L_law) 781 (15, 782, 0, 0, (Int.ofNat 0), []) from zs_pop dL_law_781), ⟨(show zSim l P zML (zMu q_L_law) 782 (2, 783, 2, 2, (Int.ofNat 0), []) from zs_aload_n dL_law_782 rfl), ⟨(show zSim l P zML (zMu q_L_law) 783 (2, 784, 0, 2, (Int.ofNat 0), []) from zs_aload_n dL_law_783 rfl), trivial⟩⟩⟩⟩⟩⟩⟩⟩⟩⟩⟩⟩⟩⟩
theorem o_zk_L_law_49 {l : Launch} {P : zP} : zAll l P zML (zMu q_L_law) 784 zk_L_law_49 := ⟨(show zSim l P zML (zMu q_L_law) 784 (2, 785, 3, 0, (Int.ofNat 0), []) from zs_iload_n dL_law_784 rfl), ⟨(show zSim l P zML (zMu q_L_law) 785 (0, 786, 0, 0, (Int.ofNat 1), []) from zs_iconst (Int32.ofNat 1) dL_law_785 (by decide +kernel) (by decide +kernel)), ⟨(show zSim l P zML (zMu q_L_law) 786 (7, 787, 0, 0, (Int.ofNat 0), []) from zs_iadd dL_law_786), ⟨(show zSim l P zML (zMu q_L_law) 787 (22, 788, 0, 0, (Int.ofNat 0), []) from zs_iald dL_law_787), ⟨(show zSim l P zML (zMu q_L_law) 788 (2, 789, 0, 2, (Int.ofNat 0), []) from zs_aload_n dL_law_788 rfl), ⟨(show zSim l P zML (zMu q_L_law) 789 (2, 790, 3, 0, (Int.ofNat 0), []) from zs_iload_n dL_law_789 rfl), ⟨(show zSim l P zML (zMu q_L_law) 790 (0, 791, 0, 0, (Int.ofNat 2), []) from zs_iconst (Int32.ofNat 2) dL_law_790 (by decide +kernel) (by decide +kernel)), ⟨(show zSim l P zML (zMu q_L_law) 791 (7, 792, 0, 0, (Int.ofNat 0), []) from zs_iadd dL_law_791), ⟨(show zSim l P zML (zMu q_L_law) 792 (22, 793, 0, 0, (Int.ofNat 0), []) from zs_iald dL_law_792), ⟨(show zSim l P zML (zMu q_L_law) 793 (29, 796, 209, 3, (Int.ofNat 12), [((Int.ofNat 0), 3)]) from zs_callV 12 q_X12_company m_X12_company (Nat.le_of_ble_eq_true rfl) dL_law_793 rfl (xvc_12) w_1431 w_1432 w_1433 w_1430 w_853 h_X12_company), ⟨(show zSim l P zML (zMu q_L_law) 796 (15, 797, 0, 0, (Int.ofNat 0), []) from zs_pop dL_law_796), ⟨(show zSim l P zML (zMu q_L_law) 797 (1, 1750, 0, 0, (Int.ofNat 0), []) from zs_goto 1750 dL_law_797 (by decide +kernel)), trivial⟩⟩⟩⟩⟩⟩⟩⟩⟩⟩⟩⟩
theorem o_zk_L_law_50 {l : Launch} {P : zP} : zAll l P zML (zMu q_L_law) 800 zk_L_law_50 := ⟨(show zSim l P zML (zMu q_L_law) 800 (2, 801, 1, 2, (Int.ofNat 0), []) from zs_aload_n dL_law_800 rfl), ⟨(show zSim l P zML (zMu q_L_law) 801 (2, 802, 0, 2, (Int.ofNat 0), []) from zs_aload_n dL_law_801 rfl), ⟨(show zSim l P zML (zMu q_L_law) 802 (2, 803, 3, 0, (Int.ofNat 0), []) from zs_iload_n dL_law_802 rfl), ⟨(show zSim l P zML (zMu q_L_law) 803 (0, 804, 0, 0, (Int.ofNat 1), []) from zs_iconst (Int32.ofNat 1) dL_law_803 (by decide +kernel) (by decide +kernel)), ⟨(show zSim l P zML (zMu q_L_law) 804 (7, 805, 0, 0, (Int.ofNat 0), []) from zs_iadd dL_law_804), ⟨(show zSim l P zML (zMu q_L_law) 805 (22, 806, 0, 0, (Int.ofNat 0), []) from zs_iald dL_law_805), ⟨(show zSim l P zML (zMu q_L_law) 806 (2, 807, 0, 2, (Int.ofNat 0), []) from zs_aload_n dL_law_806 rfl), ⟨(show zSim l P zML (zMu q_L_law) 807 (2, 808, 3, 0, (Int.ofNat 0), []) from zs_iload_n dL_law_807 rfl), ⟨(show zSim l P zML (zMu q_L_law) 808 (0, 809, 0, 0, (Int.ofNat 2), []) from zs_iconst (Int32.ofNat 2) dL_law_808 (by decide +kernel) (by decide +kernel)), ⟨(show zSim l P zML (zMu q_L_law) 809 (7, 810, 0, 0, (Int.ofNat 0), []) from zs_iadd dL_law_809), ⟨(show zSim l P zML (zMu q_L_law) 810 (22, 811, 0, 0, (Int.ofNat 0), []) from zs_iald dL_law_810), ⟨(show zSim l P zML (zMu q_L_law) 811 (2, 812, 0, 2, (Int.ofNat 0), []) from zs_aload_n dL_law_811 rfl), ⟨(show zSim l P zML (zMu q_L_law) 812 (2, 813, 3, 0, (Int.ofNat 0), []) from zs_iload_n dL_law_812 rfl), ⟨(show zSim l P zML (zMu q_L_law) 813 (0, 814, 0, 0, (Int.ofNat 3), []) from zs_iconst (Int32.ofNat 3) dL_law_813 (by decide +kernel) (by decide +kernel)), ⟨(show zSim l P zML (zMu q_L_law) 814 (7, 815, 0, 0, (Int.ofNat 0), []) from zs_iadd dL_law_814), ⟨(show zSim l P zML (zMu q_L_law) 815 (22, 816, 0, 0, (Int.ofNat 0), []) from zs_iald dL_law_815), trivial⟩⟩⟩⟩⟩⟩⟩⟩⟩⟩⟩⟩⟩⟩⟩⟩
theorem o_zk_L_law_51 {l : Launch} {P : zP} : zAll l P zML (zMu q_L_law) 816 zk_L_law_51 := ⟨(show zSim l P zML (zMu q_L_law) 816 (29, 819, 146, 4, (Int.ofNat 11), [((Int.ofNat 0), 5)]) from zs_callV 11 q_X11_bite m_X11_bite (Nat.le_of_ble_eq_true rfl) dL_law_816 rfl (xvc_11) w_1435 w_1436 w_1437 w_1434 w_625 h_X11_bite), ⟨(show zSim l P zML (zMu q_L_law) 819 (15, 820, 0, 0, (Int.ofNat 0), []) from zs_pop dL_law_819), ⟨(show zSim l P zML (zMu q_L_law) 820 (2, 821, 2, 2, (Int.ofNat 0), []) from zs_aload_n dL_law_820 rfl), ⟨(show zSim l P zML (zMu q_L_law) 821 (2, 822, 0, 2, (Int.ofNat 0), []) from zs_aload_n dL_law_821 rfl), ⟨(show zSim l P zML (zMu q_L_law) 822 (2, 823, 3, 0, (Int.ofNat 0), []) from zs_iload_n dL_law_822 rfl), ⟨(show zSim l P zML (zMu q_L_law) 823 (0, 824, 0, 0, (Int.ofNat 1), []) from zs_iconst (Int32.ofNat 1) dL_law_823 (by decide +kernel) (by decide +kernel)), ⟨(show zSim l P zML (zMu q_L_law) 824 (7, 825, 0, 0, (Int.ofNat 0), []) from zs_iadd dL_law_824), ⟨(show zSim l P zML (zMu q_L_law) 825 (22, 826, 0, 0, (Int.ofNat 0), []) from zs_iald dL_law_825), ⟨(show zSim l P zML (zMu q_L_law) 826 (2, 827, 0, 2, (Int.ofNat 0), []) from zs_aload_n dL_law_826 rfl), ⟨(show zSim l P zML (zMu q_L_law) 827 (2, 828, 3, 0, (Int.ofNat 0), []) from zs_iload_n dL_law_827 rfl), ⟨(show zSim l P zML (zMu q_L_law) 828 (0, 829, 0, 0, (Int.ofNat 2), []) from zs_iconst (Int32.ofNat 2) dL_law_828 (by decide +kernel) (by decide +kernel)), ⟨(show zSim l P zML (zMu q_L_law) 829 (7, 830, 0, 0, (Int.ofNat 0), []) from zs_iadd dL_law_829), ⟨(show zSim l P zML (zMu q_L_law) 830 (22, 831, 0, 0, (Int.ofNat 0), []) from zs_iald dL_law_830), ⟨(show zSim l P zML (zMu q_L_law) 831 (2, 832, 0, 2, (Int.ofNat 0), []) from zs_aload_n dL_law_831 rfl), trivial⟩⟩⟩⟩⟩⟩⟩⟩⟩⟩⟩⟩⟩⟩
theorem o_zk_L_law_52 {l : Launch} {P : zP} : zAll l P zML (zMu q_L_law) 832 zk_L_law_52 := ⟨(show zSim l P zML (zMu q_L_law) 832 (2, 833, 3, 0, (Int.ofNat 0), []) from zs_iload_n dL_law_832 rfl), ⟨(show zSim l P zML (zMu q_L_law) 833 (0, 834, 0, 0, (Int.ofNat 3), []) from zs_iconst (Int32.ofNat 3) dL_law_833 (by decide +kernel) (by decide +kernel)), ⟨(show zSim l P zML (zMu q_L_law) 834 (7, 835, 0, 0, (Int.ofNat 0), []) from zs_iadd dL_law_834), ⟨(show zSim l P zML (zMu q_L_law) 835 (22, 836, 0, 0, (Int.ofNat 0), []) from zs_iald dL_law_835), ⟨(show zSim l P zML (zMu q_L_law) 836 (29, 839, 202, 4, (Int.ofNat 12), [((Int.ofNat 0), 5)]) from zs_callV 12 q_X12_bite m_X12_bite (Nat.le_of_ble_eq_true rfl) dL_law_836 rfl (xvc_12) w_1439 w_1440 w_1441 w_1438 w_853 h_X12_bite), ⟨(show zSim l P zML (zMu q_L_law) 839 (15, 840, 0, 0, (Int.ofNat 0), []) from zs_pop dL_law_839), ⟨(show zSim l P zML (zMu q_L_law) 840 (1, 1750, 0, 0, (Int.ofNat 0), []) from zs_goto 1750 dL_law_840 (by decide +kernel)), ⟨(show zSim l P zML (zMu q_L_law) 843 (2, 844, 1, 2, (Int.ofNat 0), []) from zs_aload_n dL_law_843 rfl), ⟨(show zSim l P zML (zMu q_L_law) 844 (2, 845, 0, 2, (Int.ofNat 0), []) from zs_aload_n dL_law_844 rfl), ⟨(show zSim l P zML (zMu q_L_law) 845 (2, 846, 3, 0, (Int.ofNat 0), []) from zs_iload_n dL_law_845 rfl), ⟨(show zSim l P zML (zMu q_L_law) 846 (0, 847, 0, 0, (Int.ofNat 1), []) from zs_iconst (Int32.ofNat 1) dL_law_846 (by decide +kernel) (by decide +kernel)), ⟨(show zSim l P zML (zMu q_L_law) 847 (7, 848, 0, 0, (Int.ofNat 0), []) from zs_iadd dL_law_847), trivial⟩⟩⟩⟩⟩⟩⟩⟩⟩⟩⟩⟩
theorem o_zk_L_law_53 {l : Launch} {P : zP} : zAll l P zML (zMu q_L_law) 848 zk_L_law_53 := ⟨(show zSim l P zML (zMu q_L_law) 848 (22, 849, 0, 0, (Int.ofNat 0), []) from zs_iald dL_law_848), ⟨(show zSim l P zML (zMu q_L_law) 849 (2, 850, 0, 2, (Int.ofNat 0), []) from zs_aload_n dL_law_849 rfl), ⟨(show zSim l P zML (zMu q_L_law) 850 (2, 851, 3, 0, (Int.ofNat 0), []) from zs_iload_n dL_law_850 rfl), ⟨(show zSim l P zML (zMu q_L_law) 851 (0, 852, 0, 0, (Int.ofNat 2), []) from zs_iconst (Int32.ofNat 2) dL_law_851 (by decide +kernel) (by decide +kernel)), ⟨(show zSim l P zML (zMu q_L_law) 852 (7, 853, 0, 0, (Int.ofNat 0), []) from zs_iadd dL_law_852), ⟨(show zSim l P zML (zMu q_L_law) 853 (22, 854, 0, 0, (Int.ofNat 0), []) from zs_iald dL_law_853), ⟨(show zSim l P zML (zMu q_L_law) 854 (2, 855, 0, 2, (Int.ofNat 0), []) from zs_aload_n dL_law_854 rfl), ⟨(show zSim l P zML (zMu q_L_law) 855 (2, 856, 3, 0, (Int.ofNat 0), []) from zs_iload_n dL_law_855 rfl), ⟨(show zSim l P zML (zMu q_L_law) 856 (0, 857, 0, 0, (Int.ofNat 3), []) from zs_iconst (Int32.ofNat 3) dL_law_856 (by decide +kernel) (by decide +kernel)), ⟨(show zSim l P zML (zMu q_L_law) 857 (7, 858, 0, 0, (Int.ofNat 0), []) from zs_iadd dL_law_857), ⟨(show zSim l P zML (zMu q_L_law) 858 (22, 859, 0, 0, (Int.ofNat 0), []) from zs_iald dL_law_858), ⟨(show zSim l P zML (zMu q_L_law) 859 (29, 862, 168, 4, (Int.ofNat 11), [((Int.ofNat 0), 4)]) from zs_callV 11 q_X11_mould m_X11_mould (Nat.le_of_ble_eq_true rfl) dL_law_859 rfl (xvc_11) w_1443 w_1444 w_1445 w_1442 w_625 h_X11_mould), ⟨(show zSim l P zML (zMu q_L_law) 862 (15, 863, 0, 0, (Int.ofNat 0), []) from zs_pop dL_law_862), ⟨(show zSim l P zML (zMu q_L_law) 863 (2, 864, 2, 2, (Int.ofNat 0), []) from zs_aload_n dL_law_863 rfl), trivial⟩⟩⟩⟩⟩⟩⟩⟩⟩⟩⟩⟩⟩⟩
theorem o_zk_L_law_54 {l : Launch} {P : zP} : zAll l P zML (zMu q_L_law) 864 zk_L_law_54 := ⟨(show zSim l P zML (zMu q_L_law) 864 (2, 865, 0, 2, (Int.ofNat 0), []) from zs_aload_n dL_law_864 rfl), ⟨(show zSim l P zML (zMu q_L_law) 865 (2, 866, 3, 0, (Int.ofNat 0), []) from zs_iload_n dL_law_865 rfl), ⟨(show zSim l P zML (zMu q_L_law) 866 (0, 867, 0, 0, (Int.ofNat 1), []) from zs_iconst (Int32.ofNat 1) dL_law_866 (by decide +kernel) (by decide +kernel)), ⟨(show zSim l P zML (zMu q_L_law) 867 (7, 868, 0, 0, (Int.ofNat 0), []) from zs_iadd dL_law_867), ⟨(show zSim l P zML (zMu q_L_law) 868 (22, 869, 0, 0, (Int.ofNat 0), []) from zs_iald dL_law_868), ⟨(show zSim l P zML (zMu q_L_law) 869 (2, 870, 0, 2, (Int.ofNat 0), []) from zs_aload_n dL_law_869 rfl), ⟨(show zSim l P zML (zMu q_L_law) 870 (2, 871, 3, 0, (Int.ofNat 0), []) from zs_iload_n dL_law_870 rfl), ⟨(show zSim l P zML (zMu q_L_law) 871 (0, 872, 0, 0, (Int.ofNat 2), []) from zs_iconst (Int32.ofNat 2) dL_law_871 (by decide +kernel) (by decide +kernel)), ⟨(show zSim l P zML (zMu q_L_law) 872 (7, 873, 0, 0, (Int.ofNat 0), []) from zs_iadd dL_law_872), ⟨(show zSim l P zML (zMu q_L_law) 873 (22, 874, 0, 0, (Int.ofNat 0), []) from zs_iald dL_law_873), ⟨(show zSim l P zML (zMu q_L_law) 874 (2, 875, 0, 2, (Int.ofNat 0), []) from zs_aload_n dL_law_874 rfl), ⟨(show zSim l P zML (zMu q_L_law) 875 (2, 876, 3, 0, (Int.ofNat 0), []) from zs_iload_n dL_law_875 rfl), ⟨(show zSim l P zML (zMu q_L_law) 876 (0, 877, 0, 0, (Int.ofNat 3), []) from zs_iconst (Int32.ofNat 3) dL_law_876 (by decide +kernel) (by decide +kernel)), ⟨(show zSim l P zML (zMu q_L_law) 877 (7, 878, 0, 0, (Int.ofNat 0), []) from zs_iadd dL_law_877), ⟨(show zSim l P zML (zMu q_L_law) 878 (22, 879, 0, 0, (Int.ofNat 0), []) from zs_iald dL_law_878), ⟨(show zSim l P zML (zMu q_L_law) 879 (29, 882, 279, 4, (Int.ofNat 12), [((Int.ofNat 0), 4)]) from zs_callV 12 q_X12_mould m_X12_mould (Nat.le_of_ble_eq_true rfl) dL_law_879 rfl (xvc_12) w_1447 w_1448 w_1449 w_1446 w_853 h_X12_mould), trivial⟩⟩⟩⟩⟩⟩⟩⟩⟩⟩⟩⟩⟩⟩⟩⟩
theorem o_zk_L_law_55 {l : Launch} {P : zP} : zAll l P zML (zMu q_L_law) 880 zk_L_law_55 := ⟨(show zSim l P zML (zMu q_L_law) 882 (15, 883, 0, 0, (Int.ofNat 0), []) from zs_pop dL_law_882), ⟨(show zSim l P zML (zMu q_L_law) 883 (1, 1750, 0, 0, (Int.ofNat 0), []) from zs_goto 1750 dL_law_883 (by decide +kernel)), ⟨(show zSim l P zML (zMu q_L_law) 886 (2, 887, 1, 2, (Int.ofNat 0), []) from zs_aload_n dL_law_886 rfl), ⟨(show zSim l P zML (zMu q_L_law) 887 (2, 888, 0, 2, (Int.ofNat 0), []) from zs_aload_n dL_law_887 rfl), ⟨(show zSim l P zML (zMu q_L_law) 888 (2, 889, 3, 0, (Int.ofNat 0), []) from zs_iload_n dL_law_888 rfl), ⟨(show zSim l P zML (zMu q_L_law) 889 (0, 890, 0, 0, (Int.ofNat 1), []) from zs_iconst (Int32.ofNat 1) dL_law_889 (by decide +kernel) (by decide +kernel)), ⟨(show zSim l P zML (zMu q_L_law) 890 (7, 891, 0, 0, (Int.ofNat 0), []) from zs_iadd dL_law_890), ⟨(show zSim l P zML (zMu q_L_law) 891 (22, 892, 0, 0, (Int.ofNat 0), []) from zs_iald dL_law_891), ⟨(show zSim l P zML (zMu q_L_law) 892 (2, 893, 0, 2, (Int.ofNat 0), []) from zs_aload_n dL_law_892 rfl), ⟨(show zSim l P zML (zMu q_L_law) 893 (2, 894, 3, 0, (Int.ofNat 0), []) from zs_iload_n dL_law_893 rfl), ⟨(show zSim l P zML (zMu q_L_law) 894 (0, 895, 0, 0, (Int.ofNat 2), []) from zs_iconst (Int32.ofNat 2) dL_law_894 (by decide +kernel) (by decide +kernel)), ⟨(show zSim l P zML (zMu q_L_law) 895 (7, 896, 0, 0, (Int.ofNat 0), []) from zs_iadd dL_law_895), trivial⟩⟩⟩⟩⟩⟩⟩⟩⟩⟩⟩⟩
theorem o_zk_L_law_56 {l : Launch} {P : zP} : zAll l P zML (zMu q_L_law) 896 zk_L_law_56 := ⟨(show zSim l P zML (zMu q_L_law) 896 (22, 897, 0, 0, (Int.ofNat 0), []) from zs_iald dL_law_896), ⟨(show zSim l P zML (zMu q_L_law) 897 (2, 898, 0, 2, (Int.ofNat 0), []) from zs_aload_n dL_law_897 rfl), ⟨(show zSim l P zML (zMu q_L_law) 898 (2, 899, 3, 0, (Int.ofNat 0), []) from zs_iload_n dL_law_898 rfl), ⟨(show zSim l P zML (zMu q_L_law) 899 (0, 900, 0, 0, (Int.ofNat 3), []) from zs_iconst (Int32.ofNat 3) dL_law_899 (by decide +kernel) (by decide +kernel)), ⟨(show zSim l P zML (zMu q_L_law) 900 (7, 901, 0, 0, (Int.ofNat 0), []) from zs_iadd dL_law_900), ⟨(show zSim l P zML (zMu q_L_law) 901 (22, 902, 0, 0, (Int.ofNat 0), []) from zs_iald dL_law_901), ⟨(show zSim l P zML (zMu q_L_law) 902 (29, 905, 160, 4, (Int.ofNat 11), [((Int.ofNat 0), 4)]) from zs_callV 11 q_X11_honey m_X11_honey (Nat.le_of_ble_eq_true rfl) dL_law_902 rfl (xvc_11) w_1451 w_1452 w_1453 w_1450 w_625 h_X11_honey), ⟨(show zSim l P zML (zMu q_L_law) 905 (15, 906, 0, 0, (Int.ofNat 0), []) from zs_pop dL_law_905), ⟨(show zSim l P zML (zMu q_L_law) 906 (2, 907, 2, 2, (Int.ofNat 0), []) from zs_aload_n dL_law_906 rfl), ⟨(show zSim l P zML (zMu q_L_law) 907 (2, 908, 0, 2, (Int.ofNat 0), []) from zs_aload_n dL_law_907 rfl), ⟨(show zSim l P zML (zMu q_L_law) 908 (2, 909, 3, 0, (Int.ofNat 0), []) from zs_iload_n dL_law_908 rfl), ⟨(show zSim l P zML (zMu q_L_law) 909 (0, 910, 0, 0, (Int.ofNat 1), []) from zs_iconst (Int32.ofNat 1) dL_law_909 (by decide +kernel) (by decide +kernel)), ⟨(show zSim l P zML (zMu q_L_law) 910 (7, 911, 0, 0, (Int.ofNat 0), []) from zs_iadd dL_law_910), ⟨(show zSim l P zML (zMu q_L_law) 911 (22, 912, 0, 0, (Int.ofNat 0), []) from zs_iald dL_law_911), trivial⟩⟩⟩⟩⟩⟩⟩⟩⟩⟩⟩⟩⟩⟩
theorem o_zk_L_law_57 {l : Launch} {P : zP} : zAll l P zML (zMu q_L_law) 912 zk_L_law_57 := ⟨(show zSim l P zML (zMu q_L_law) 912 (2, 913, 0, 2, (Int.ofNat 0), []) from zs_aload_n dL_law_912 rfl), ⟨(show zSim l P zML (zMu q_L_law) 913 (2, 914, 3, 0, (Int.ofNat 0), []) from zs_iload_n dL_law_913 rfl), ⟨(show zSim l P zML (zMu q_L_law) 914 (0, 915, 0, 0, (Int.ofNat 2), []) from zs_iconst (Int32.ofNat 2) dL_law_914 (by decide +kernel) (by decide +kernel)), ⟨(show zSim l P zML (zMu q_L_law) 915 (7, 916, 0, 0, (Int.ofNat 0), []) from zs_iadd dL_law_915), ⟨(show zSim l P zML (zMu q_L_law) 916 (22, 917, 0, 0, (Int.ofNat 0), []) from zs_iald dL_law_916), ⟨(show zSim l P zML (zMu q_L_law) 917 (2, 918, 0, 2, (Int.ofNat 0), []) from zs_aload_n dL_law_917 rfl), ⟨(show zSim l P zML (zMu q_L_law) 918 (2, 919, 3, 0, (Int.ofNat 0), []) from zs_iload_n dL_law_918 rfl), ⟨(show zSim l P zML (zMu q_L_law) 919 (0, 920, 0, 0, (Int.ofNat 3), []) from zs_iconst (Int32.ofNat 3) dL_law_919 (by decide +kernel) (by decide +kernel)), ⟨(show zSim l P zML (zMu q_L_law) 920 (7, 921, 0, 0, (Int.ofNat 0), []) from zs_iadd dL_law_920), ⟨(show zSim l P zML (zMu q_L_law) 921 (22, 922, 0, 0, (Int.ofNat 0), []) from zs_iald dL_law_921), ⟨(show zSim l P zML (zMu q_L_law) 922 (29, 925, 239, 4, (Int.ofNat 12), [((Int.ofNat 0), 4)]) from zs_callV 12 q_X12_honey m_X12_honey (Nat.le_of_ble_eq_true rfl) dL_law_922 rfl (xvc_12) w_1455 w_1456 w_1457 w_1454 w_853 h_X12_honey), ⟨(show zSim l P zML (zMu q_L_law) 925 (15, 926, 0, 0, (Int.ofNat 0), []) from zs_pop dL_law_925), ⟨(show zSim l P zML (zMu q_L_law) 926 (1, 1750, 0, 0, (Int.ofNat 0), []) from zs_goto 1750 dL_law_926 (by decide +kernel)), trivial⟩⟩⟩⟩⟩⟩⟩⟩⟩⟩⟩⟩⟩
theorem o_zk_L_law_58 {l : Launch} {P : zP} : zAll l P zML (zMu q_L_law) 928 zk_L_law_58 := ⟨(show zSim l P zML (zMu q_L_law) 929 (2, 930, 1, 2, (Int.ofNat 0), []) from zs_aload_n dL_law_929 rfl), ⟨(show zSim l P zML (zMu q_L_law) 930 (2, 931, 0, 2, (Int.ofNat 0), []) from zs_aload_n dL_law_930 rfl), ⟨(show zSim l P zML (zMu q_L_law) 931 (2, 932, 3, 0, (Int.ofNat 0), []) from zs_iload_n dL_law_931 rfl), ⟨(show zSim l P zML (zMu q_L_law) 932 (0, 933, 0, 0, (Int.ofNat 1), []) from zs_iconst (Int32.ofNat 1) dL_law_932 (by decide +kernel) (by decide +kernel)), ⟨(show zSim l P zML (zMu q_L_law) 933 (7, 934, 0, 0, (Int.ofNat 0), []) from zs_iadd dL_law_933), ⟨(show zSim l P zML (zMu q_L_law) 934 (22, 935, 0, 0, (Int.ofNat 0), []) from zs_iald dL_law_934), ⟨(show zSim l P zML (zMu q_L_law) 935 (2, 936, 0, 2, (Int.ofNat 0), []) from zs_aload_n dL_law_935 rfl), ⟨(show zSim l P zML (zMu q_L_law) 936 (2, 937, 3, 0, (Int.ofNat 0), []) from zs_iload_n dL_law_936 rfl), ⟨(show zSim l P zML (zMu q_L_law) 937 (0, 938, 0, 0, (Int.ofNat 2), []) from zs_iconst (Int32.ofNat 2) dL_law_937 (by decide +kernel) (by decide +kernel)), ⟨(show zSim l P zML (zMu q_L_law) 938 (7, 939, 0, 0, (Int.ofNat 0), []) from zs_iadd dL_law_938), ⟨(show zSim l P zML (zMu q_L_law) 939 (22, 940, 0, 0, (Int.ofNat 0), []) from zs_iald dL_law_939), ⟨(show zSim l P zML (zMu q_L_law) 940 (2, 941, 0, 2, (Int.ofNat 0), []) from zs_aload_n dL_law_940 rfl), ⟨(show zSim l P zML (zMu q_L_law) 941 (2, 942, 3, 0, (Int.ofNat 0), []) from zs_iload_n dL_law_941 rfl), ⟨(show zSim l P zML (zMu q_L_law) 942 (0, 943, 0, 0, (Int.ofNat 3), []) from zs_iconst (Int32.ofNat 3) dL_law_942 (by decide +kernel) (by decide +kernel)), ⟨(show zSim l P zML (zMu q_L_law) 943 (7, 944, 0, 0, (Int.ofNat 0), []) from zs_iadd dL_law_943), trivial⟩⟩⟩⟩⟩⟩⟩⟩⟩⟩⟩⟩⟩⟩⟩
theorem o_zk_L_law_59 {l : Launch} {P : zP} : zAll l P zML (zMu q_L_law) 944 zk_L_law_59 := ⟨(show zSim l P zML (zMu q_L_law) 944 (22, 945, 0, 0, (Int.ofNat 0), []) from zs_iald dL_law_944), ⟨(show zSim l P zML (zMu q_L_law) 945 (29, 948, 149, 4, (Int.ofNat 11), [((Int.ofNat 0), 4)]) from zs_callV 11 q_X11_clean m_X11_clean (Nat.le_of_ble_eq_true rfl) dL_law_945 rfl (xvc_11) w_1459 w_1460 w_1461 w_1458 w_625 h_X11_clean), ⟨(show zSim l P zML (zMu q_L_law) 948 (15, 949, 0, 0, (Int.ofNat 0), []) from zs_pop dL_law_948), ⟨(show zSim l P zML (zMu q_L_law) 949 (2, 950, 2, 2, (Int.ofNat 0), []) from zs_aload_n dL_law_949 rfl), ⟨(show zSim l P zML (zMu q_L_law) 950 (2, 951, 0, 2, (Int.ofNat 0), []) from zs_aload_n dL_law_950 rfl), ⟨(show zSim l P zML (zMu q_L_law) 951 (2, 952, 3, 0, (Int.ofNat 0), []) from zs_iload_n dL_law_951 rfl), ⟨(show zSim l P zML (zMu q_L_law) 952 (0, 953, 0, 0, (Int.ofNat 1), []) from zs_iconst (Int32.ofNat 1) dL_law_952 (by decide +kernel) (by decide +kernel)), ⟨(show zSim l P zML (zMu q_L_law) 953 (7, 954, 0, 0, (Int.ofNat 0), []) from zs_iadd dL_law_953), ⟨(show zSim l P zML (zMu q_L_law) 954 (22, 955, 0, 0, (Int.ofNat 0), []) from zs_iald dL_law_954), ⟨(show zSim l P zML (zMu q_L_law) 955 (2, 956, 0, 2, (Int.ofNat 0), []) from zs_aload_n dL_law_955 rfl), ⟨(show zSim l P zML (zMu q_L_law) 956 (2, 957, 3, 0, (Int.ofNat 0), []) from zs_iload_n dL_law_956 rfl), ⟨(show zSim l P zML (zMu q_L_law) 957 (0, 958, 0, 0, (Int.ofNat 2), []) from zs_iconst (Int32.ofNat 2) dL_law_957 (by decide +kernel) (by decide +kernel)), ⟨(show zSim l P zML (zMu q_L_law) 958 (7, 959, 0, 0, (Int.ofNat 0), []) from zs_iadd dL_law_958), ⟨(show zSim l P zML (zMu q_L_law) 959 (22, 960, 0, 0, (Int.ofNat 0), []) from zs_iald dL_law_959), trivial⟩⟩⟩⟩⟩⟩⟩⟩⟩⟩⟩⟩⟩⟩
theorem o_zk_L_law_60 {l : Launch} {P : zP} : zAll l P zML (zMu q_L_law) 960 zk_L_law_60 := ⟨(show zSim l P zML (zMu q_L_law) 960 (2, 961, 0, 2, (Int.ofNat 0), []) from zs_aload_n dL_law_960 rfl), ⟨(show zSim l P zML (zMu q_L_law) 961 (2, 962, 3, 0, (Int.ofNat 0), []) from zs_iload_n dL_law_961 rfl), ⟨(show zSim l P zML (zMu q_L_law) 962 (0, 963, 0, 0, (Int.ofNat 3), []) from zs_iconst (Int32.ofNat 3) dL_law_962 (by decide +kernel) (by decide +kernel)), ⟨(show zSim l P zML (zMu q_L_law) 963 (7, 964, 0, 0, (Int.ofNat 0), []) from zs_iadd dL_law_963), ⟨(show zSim l P zML (zMu q_L_law) 964 (22, 965, 0, 0, (Int.ofNat 0), []) from zs_iald dL_law_964), ⟨(show zSim l P zML (zMu q_L_law) 965 (29, 968, 208, 4, (Int.ofNat 12), [((Int.ofNat 0), 4)]) from zs_callV 12 q_X12_clean m_X12_clean (Nat.le_of_ble_eq_true rfl) dL_law_965 rfl (xvc_12) w_1463 w_1464 w_1465 w_1462 w_853 h_X12_clean), ⟨(show zSim l P zML (zMu q_L_law) 968 (15, 969, 0, 0, (Int.ofNat 0), []) from zs_pop dL_law_968), ⟨(show zSim l P zML (zMu q_L_law) 969 (1, 1750, 0, 0, (Int.ofNat 0), []) from zs_goto 1750 dL_law_969 (by decide +kernel)), ⟨(show zSim l P zML (zMu q_L_law) 972 (2, 973, 1, 2, (Int.ofNat 0), []) from zs_aload_n dL_law_972 rfl), ⟨(show zSim l P zML (zMu q_L_law) 973 (2, 974, 0, 2, (Int.ofNat 0), []) from zs_aload_n dL_law_973 rfl), ⟨(show zSim l P zML (zMu q_L_law) 974 (2, 975, 3, 0, (Int.ofNat 0), []) from zs_iload_n dL_law_974 rfl), ⟨(show zSim l P zML (zMu q_L_law) 975 (0, 976, 0, 0, (Int.ofNat 1), []) from zs_iconst (Int32.ofNat 1) dL_law_975 (by decide +kernel) (by decide +kernel)), trivial⟩⟩⟩⟩⟩⟩⟩⟩⟩⟩⟩⟩
theorem o_zk_L_law_61 {l : Launch} {P : zP} : zAll l P zML (zMu q_L_law) 976 zk_L_law_61 := ⟨(show zSim l P zML (zMu q_L_law) 976 (7, 977, 0, 0, (Int.ofNat 0), []) from zs_iadd dL_law_976), ⟨(show zSim l P zML (zMu q_L_law) 977 (22, 978, 0, 0, (Int.ofNat 0), []) from zs_iald dL_law_977), ⟨(show zSim l P zML (zMu q_L_law) 978 (2, 979, 0, 2, (Int.ofNat 0), []) from zs_aload_n dL_law_978 rfl), ⟨(show zSim l P zML (zMu q_L_law) 979 (2, 980, 3, 0, (Int.ofNat 0), []) from zs_iload_n dL_law_979 rfl), ⟨(show zSim l P zML (zMu q_L_law) 980 (0, 981, 0, 0, (Int.ofNat 2), []) from zs_iconst (Int32.ofNat 2) dL_law_980 (by decide +kernel) (by decide +kernel)), ⟨(show zSim l P zML (zMu q_L_law) 981 (7, 982, 0, 0, (Int.ofNat 0), []) from zs_iadd dL_law_981), ⟨(show zSim l P zML (zMu q_L_law) 982 (22, 983, 0, 0, (Int.ofNat 0), []) from zs_iald dL_law_982), ⟨(show zSim l P zML (zMu q_L_law) 983 (29, 986, 182, 3, (Int.ofNat 11), [((Int.ofNat 0), 4)]) from zs_callV 11 q_X11_steam m_X11_steam (Nat.le_of_ble_eq_true rfl) dL_law_983 rfl (xvc_11) w_1467 w_1468 w_1469 w_1466 w_625 h_X11_steam), ⟨(show zSim l P zML (zMu q_L_law) 986 (15, 987, 0, 0, (Int.ofNat 0), []) from zs_pop dL_law_986), ⟨(show zSim l P zML (zMu q_L_law) 987 (2, 988, 2, 2, (Int.ofNat 0), []) from zs_aload_n dL_law_987 rfl), ⟨(show zSim l P zML (zMu q_L_law) 988 (2, 989, 0, 2, (Int.ofNat 0), []) from zs_aload_n dL_law_988 rfl), ⟨(show zSim l P zML (zMu q_L_law) 989 (2, 990, 3, 0, (Int.ofNat 0), []) from zs_iload_n dL_law_989 rfl), ⟨(show zSim l P zML (zMu q_L_law) 990 (0, 991, 0, 0, (Int.ofNat 1), []) from zs_iconst (Int32.ofNat 1) dL_law_990 (by decide +kernel) (by decide +kernel)), ⟨(show zSim l P zML (zMu q_L_law) 991 (7, 992, 0, 0, (Int.ofNat 0), []) from zs_iadd dL_law_991), trivial⟩⟩⟩⟩⟩⟩⟩⟩⟩⟩⟩⟩⟩⟩
theorem o_zk_L_law_62 {l : Launch} {P : zP} : zAll l P zML (zMu q_L_law) 992 zk_L_law_62 := ⟨(show zSim l P zML (zMu q_L_law) 992 (22, 993, 0, 0, (Int.ofNat 0), []) from zs_iald dL_law_992), ⟨(show zSim l P zML (zMu q_L_law) 993 (2, 994, 0, 2, (Int.ofNat 0), []) from zs_aload_n dL_law_993 rfl), ⟨(show zSim l P zML (zMu q_L_law) 994 (2, 995, 3, 0, (Int.ofNat 0), []) from zs_iload_n dL_law_994 rfl), ⟨(show zSim l P zML (zMu q_L_law) 995 (0, 996, 0, 0, (Int.ofNat 2), []) from zs_iconst (Int32.ofNat 2) dL_law_995 (by decide +kernel) (by decide +kernel)), ⟨(show zSim l P zML (zMu q_L_law) 996 (7, 997, 0, 0, (Int.ofNat 0), []) from zs_iadd dL_law_996), ⟨(show zSim l P zML (zMu q_L_law) 997 (22, 998, 0, 0, (Int.ofNat 0), []) from zs_iald dL_law_997), ⟨(show zSim l P zML (zMu q_L_law) 998 (29, 1001, 316, 3, (Int.ofNat 12), [((Int.ofNat 0), 3)]) from zs_callV 12 q_X12_steam m_X12_steam (Nat.le_of_ble_eq_true rfl) dL_law_998 rfl (xvc_12) w_1471 w_1472 w_1473 w_1470 w_853 h_X12_steam), ⟨(show zSim l P zML (zMu q_L_law) 1001 (15, 1002, 0, 0, (Int.ofNat 0), []) from zs_pop dL_law_1001), ⟨(show zSim l P zML (zMu q_L_law) 1002 (1, 1750, 0, 0, (Int.ofNat 0), []) from zs_goto 1750 dL_law_1002 (by decide +kernel)), ⟨(show zSim l P zML (zMu q_L_law) 1005 (2, 1006, 1, 2, (Int.ofNat 0), []) from zs_aload_n dL_law_1005 rfl), ⟨(show zSim l P zML (zMu q_L_law) 1006 (2, 1007, 0, 2, (Int.ofNat 0), []) from zs_aload_n dL_law_1006 rfl), ⟨(show zSim l P zML (zMu q_L_law) 1007 (2, 1008, 3, 0, (Int.ofNat 0), []) from zs_iload_n dL_law_1007 rfl), trivial⟩⟩⟩⟩⟩⟩⟩⟩⟩⟩⟩⟩
theorem o_zk_L_law_63 {l : Launch} {P : zP} : zAll l P zML (zMu q_L_law) 1008 zk_L_law_63 := ⟨(show zSim l P zML (zMu q_L_law) 1008 (0, 1009, 0, 0, (Int.ofNat 1), []) from zs_iconst (Int32.ofNat 1) dL_law_1008 (by decide +kernel) (by decide +kernel)), ⟨(show zSim l P zML (zMu q_L_law) 1009 (7, 1010, 0, 0, (Int.ofNat 0), []) from zs_iadd dL_law_1009), ⟨(show zSim l P zML (zMu q_L_law) 1010 (22, 1011, 0, 0, (Int.ofNat 0), []) from zs_iald dL_law_1010), ⟨(show zSim l P zML (zMu q_L_law) 1011 (2, 1012, 0, 2, (Int.ofNat 0), []) from zs_aload_n dL_law_1011 rfl), ⟨(show zSim l P zML (zMu q_L_law) 1012 (2, 1013, 3, 0, (Int.ofNat 0), []) from zs_iload_n dL_law_1012 rfl), ⟨(show zSim l P zML (zMu q_L_law) 1013 (0, 1014, 0, 0, (Int.ofNat 2), []) from zs_iconst (Int32.ofNat 2) dL_law_1013 (by decide +kernel) (by decide +kernel)), ⟨(show zSim l P zML (zMu q_L_law) 1014 (7, 1015, 0, 0, (Int.ofNat 0), []) from zs_iadd dL_law_1014), ⟨(show zSim l P zML (zMu q_L_law) 1015 (22, 1016, 0, 0, (Int.ofNat 0), []) from zs_iald dL_law_1015), ⟨(show zSim l P zML (zMu q_L_law) 1016 (29, 1019, 190, 3, (Int.ofNat 11), [((Int.ofNat 0), 3)]) from zs_callV 11 q_X11_unlike m_X11_unlike (Nat.le_of_ble_eq_true rfl) dL_law_1016 rfl (xvc_11) w_1475 w_1476 w_1477 w_1474 w_625 h_X11_unlike), ⟨(show zSim l P zML (zMu q_L_law) 1019 (15, 1020, 0, 0, (Int.ofNat 0), []) from zs_pop dL_law_1019), ⟨(show zSim l P zML (zMu q_L_law) 1020 (2, 1021, 2, 2, (Int.ofNat 0), []) from zs_aload_n dL_law_1020 rfl), ⟨(show zSim l P zML (zMu q_L_law) 1021 (2, 1022, 0, 2, (Int.ofNat 0), []) from zs_aload_n dL_law_1021 rfl), ⟨(show zSim l P zML (zMu q_L_law) 1022 (2, 1023, 3, 0, (Int.ofNat 0), []) from zs_iload_n dL_law_1022 rfl), ⟨(show zSim l P zML (zMu q_L_law) 1023 (0, 1024, 0, 0, (Int.ofNat 1), []) from zs_iconst (Int32.ofNat 1) dL_law_1023 (by decide +kernel) (by decide +kernel)), trivial⟩⟩⟩⟩⟩⟩⟩⟩⟩⟩⟩⟩⟩⟩
theorem o_zk_L_law_64 {l : Launch} {P : zP} : zAll l P zML (zMu q_L_law) 1024 zk_L_law_64 := ⟨(show zSim l P zML (zMu q_L_law) 1024 (7, 1025, 0, 0, (Int.ofNat 0), []) from zs_iadd dL_law_1024), ⟨(show zSim l P zML (zMu q_L_law) 1025 (22, 1026, 0, 0, (Int.ofNat 0), []) from zs_iald dL_law_1025), ⟨(show zSim l P zML (zMu q_L_law) 1026 (2, 1027, 0, 2, (Int.ofNat 0), []) from zs_aload_n dL_law_1026 rfl), ⟨(show zSim l P zML (zMu q_L_law) 1027 (2, 1028, 3, 0, (Int.ofNat 0), []) from zs_iload_n dL_law_1027 rfl), ⟨(show zSim l P zML (zMu q_L_law) 1028 (0, 1029, 0, 0, (Int.ofNat 2), []) from zs_iconst (Int32.ofNat 2) dL_law_1028 (by decide +kernel) (by decide +kernel)), ⟨(show zSim l P zML (zMu q_L_law) 1029 (7, 1030, 0, 0, (Int.ofNat 0), []) from zs_iadd dL_law_1029), ⟨(show zSim l P zML (zMu q_L_law) 1030 (22, 1031, 0, 0, (Int.ofNat 0), []) from zs_iald dL_law_1030), ⟨(show zSim l P zML (zMu q_L_law) 1031 (29, 1034, 332, 3, (Int.ofNat 12), [((Int.ofNat 0), 3)]) from zs_callV 12 q_X12_unlike m_X12_unlike (Nat.le_of_ble_eq_true rfl) dL_law_1031 rfl (xvc_12) w_1479 w_1480 w_1481 w_1478 w_853 h_X12_unlike), ⟨(show zSim l P zML (zMu q_L_law) 1034 (15, 1035, 0, 0, (Int.ofNat 0), []) from zs_pop dL_law_1034), ⟨(show zSim l P zML (zMu q_L_law) 1035 (1, 1750, 0, 0, (Int.ofNat 0), []) from zs_goto 1750 dL_law_1035 (by decide +kernel)), ⟨(show zSim l P zML (zMu q_L_law) 1038 (2, 1039, 1, 2, (Int.ofNat 0), []) from zs_aload_n dL_law_1038 rfl), ⟨(show zSim l P zML (zMu q_L_law) 1039 (2, 1040, 0, 2, (Int.ofNat 0), []) from zs_aload_n dL_law_1039 rfl), trivial⟩⟩⟩⟩⟩⟩⟩⟩⟩⟩⟩⟩
theorem o_zk_L_law_65 {l : Launch} {P : zP} : zAll l P zML (zMu q_L_law) 1040 zk_L_law_65 := ⟨(show zSim l P zML (zMu q_L_law) 1040 (2, 1041, 3, 0, (Int.ofNat 0), []) from zs_iload_n dL_law_1040 rfl), ⟨(show zSim l P zML (zMu q_L_law) 1041 (0, 1042, 0, 0, (Int.ofNat 1), []) from zs_iconst (Int32.ofNat 1) dL_law_1041 (by decide +kernel) (by decide +kernel)), ⟨(show zSim l P zML (zMu q_L_law) 1042 (7, 1043, 0, 0, (Int.ofNat 0), []) from zs_iadd dL_law_1042), ⟨(show zSim l P zML (zMu q_L_law) 1043 (22, 1044, 0, 0, (Int.ofNat 0), []) from zs_iald dL_law_1043), ⟨(show zSim l P zML (zMu q_L_law) 1044 (2, 1045, 0, 2, (Int.ofNat 0), []) from zs_aload_n dL_law_1044 rfl), ⟨(show zSim l P zML (zMu q_L_law) 1045 (2, 1046, 3, 0, (Int.ofNat 0), []) from zs_iload_n dL_law_1045 rfl), ⟨(show zSim l P zML (zMu q_L_law) 1046 (0, 1047, 0, 0, (Int.ofNat 2), []) from zs_iconst (Int32.ofNat 2) dL_law_1046 (by decide +kernel) (by decide +kernel)), ⟨(show zSim l P zML (zMu q_L_law) 1047 (7, 1048, 0, 0, (Int.ofNat 0), []) from zs_iadd dL_law_1047), ⟨(show zSim l P zML (zMu q_L_law) 1048 (22, 1049, 0, 0, (Int.ofNat 0), []) from zs_iald dL_law_1048), ⟨(show zSim l P zML (zMu q_L_law) 1049 (29, 1052, 152, 3, (Int.ofNat 11), [((Int.ofNat 0), 3)]) from zs_callV 11 q_X11_count m_X11_count (Nat.le_of_ble_eq_true rfl) dL_law_1049 rfl (xvc_11) w_1483 w_1484 w_1485 w_1482 w_625 h_X11_count), ⟨(show zSim l P zML (zMu q_L_law) 1052 (15, 1053, 0, 0, (Int.ofNat 0), []) from zs_pop dL_law_1052), ⟨(show zSim l P zML (zMu q_L_law) 1053 (2, 1054, 2, 2, (Int.ofNat 0), []) from zs_aload_n dL_law_1053 rfl), ⟨(show zSim l P zML (zMu q_L_law) 1054 (2, 1055, 0, 2, (Int.ofNat 0), []) from zs_aload_n dL_law_1054 rfl), ⟨(show zSim l P zML (zMu q_L_law) 1055 (2, 1056, 3, 0, (Int.ofNat 0), []) from zs_iload_n dL_law_1055 rfl), trivial⟩⟩⟩⟩⟩⟩⟩⟩⟩⟩⟩⟩⟩⟩
theorem o_zk_L_law_66 {l : Launch} {P : zP} : zAll l P zML (zMu q_L_law) 1056 zk_L_law_66 := ⟨(show zSim l P zML (zMu q_L_law) 1056 (0, 1057, 0, 0, (Int.ofNat 1), []) from zs_iconst (Int32.ofNat 1) dL_law_1056 (by decide +kernel) (by decide +kernel)), ⟨(show zSim l P zML (zMu q_L_law) 1057 (7, 1058, 0, 0, (Int.ofNat 0), []) from zs_iadd dL_law_1057), ⟨(show zSim l P zML (zMu q_L_law) 1058 (22, 1059, 0, 0, (Int.ofNat 0), []) from zs_iald dL_law_1058), ⟨(show zSim l P zML (zMu q_L_law) 1059 (2, 1060, 0, 2, (Int.ofNat 0), []) from zs_aload_n dL_law_1059 rfl), ⟨(show zSim l P zML (zMu q_L_law) 1060 (2, 1061, 3, 0, (Int.ofNat 0), []) from zs_iload_n dL_law_1060 rfl), ⟨(show zSim l P zML (zMu q_L_law) 1061 (0, 1062, 0, 0, (Int.ofNat 2), []) from zs_iconst (Int32.ofNat 2) dL_law_1061 (by decide +kernel) (by decide +kernel)), ⟨(show zSim l P zML (zMu q_L_law) 1062 (7, 1063, 0, 0, (Int.ofNat 0), []) from zs_iadd dL_law_1062), ⟨(show zSim l P zML (zMu q_L_law) 1063 (22, 1064, 0, 0, (Int.ofNat 0), []) from zs_iald dL_law_1063), ⟨(show zSim l P zML (zMu q_L_law) 1064 (29, 1067, 213, 3, (Int.ofNat 12), [((Int.ofNat 0), 3)]) from zs_callV 12 q_X12_count m_X12_count (Nat.le_of_ble_eq_true rfl) dL_law_1064 rfl (xvc_12) w_1487 w_1488 w_1489 w_1486 w_853 h_X12_count), ⟨(show zSim l P zML (zMu q_L_law) 1067 (15, 1068, 0, 0, (Int.ofNat 0), []) from zs_pop dL_law_1067), ⟨(show zSim l P zML (zMu q_L_law) 1068 (1, 1750, 0, 0, (Int.ofNat 0), []) from zs_goto 1750 dL_law_1068 (by decide +kernel)), ⟨(show zSim l P zML (zMu q_L_law) 1071 (2, 1072, 1, 2, (Int.ofNat 0), []) from zs_aload_n dL_law_1071 rfl), trivial⟩⟩⟩⟩⟩⟩⟩⟩⟩⟩⟩⟩
theorem o_zk_L_law_67 {l : Launch} {P : zP} : zAll l P zML (zMu q_L_law) 1072 zk_L_law_67 := ⟨(show zSim l P zML (zMu q_L_law) 1072 (2, 1073, 0, 2, (Int.ofNat 0), []) from zs_aload_n dL_law_1072 rfl), ⟨(show zSim l P zML (zMu q_L_law) 1073 (2, 1074, 3, 0, (Int.ofNat 0), []) from zs_iload_n dL_law_1073 rfl), ⟨(show zSim l P zML (zMu q_L_law) 1074 (0, 1075, 0, 0, (Int.ofNat 1), []) from zs_iconst (Int32.ofNat 1) dL_law_1074 (by decide +kernel) (by decide +kernel)), ⟨(show zSim l P zML (zMu q_L_law) 1075 (7, 1076, 0, 0, (Int.ofNat 0), []) from zs_iadd dL_law_1075), ⟨(show zSim l P zML (zMu q_L_law) 1076 (22, 1077, 0, 0, (Int.ofNat 0), []) from zs_iald dL_law_1076), ⟨(show zSim l P zML (zMu q_L_law) 1077 (29, 1080, 159, 2, (Int.ofNat 11), [((Int.ofNat 0), 2)]) from zs_callV 11 q_X11_hole m_X11_hole (Nat.le_of_ble_eq_true rfl) dL_law_1077 rfl (xvc_11) w_1491 w_1492 w_1493 w_1490 w_625 h_X11_hole), ⟨(show zSim l P zML (zMu q_L_law) 1080 (15, 1081, 0, 0, (Int.ofNat 0), []) from zs_pop dL_law_1080), ⟨(show zSim l P zML (zMu q_L_law) 1081 (2, 1082, 2, 2, (Int.ofNat 0), []) from zs_aload_n dL_law_1081 rfl), ⟨(show zSim l P zML (zMu q_L_law) 1082 (2, 1083, 0, 2, (Int.ofNat 0), []) from zs_aload_n dL_law_1082 rfl), ⟨(show zSim l P zML (zMu q_L_law) 1083 (2, 1084, 3, 0, (Int.ofNat 0), []) from zs_iload_n dL_law_1083 rfl), ⟨(show zSim l P zML (zMu q_L_law) 1084 (0, 1085, 0, 0, (Int.ofNat 1), []) from zs_iconst (Int32.ofNat 1) dL_law_1084 (by decide +kernel) (by decide +kernel)), ⟨(show zSim l P zML (zMu q_L_law) 1085 (7, 1086, 0, 0, (Int.ofNat 0), []) from zs_iadd dL_law_1085), ⟨(show zSim l P zML (zMu q_L_law) 1086 (22, 1087, 0, 0, (Int.ofNat 0), []) from zs_iald dL_law_1086), ⟨(show zSim l P zML (zMu q_L_law) 1087 (29, 1090, 238, 2, (Int.ofNat 12), [((Int.ofNat 0), 4)]) from zs_callV 12 q_X12_hole m_X12_hole (Nat.le_of_ble_eq_true rfl) dL_law_1087 rfl (xvc_12) w_1495 w_1496 w_1497 w_1494 w_853 h_X12_hole), trivial⟩⟩⟩⟩⟩⟩⟩⟩⟩⟩⟩⟩⟩⟩
theorem o_zk_L_law_68 {l : Launch} {P : zP} : zAll l P zML (zMu q_L_law) 1088 zk_L_law_68 := ⟨(show zSim l P zML (zMu q_L_law) 1090 (15, 1091, 0, 0, (Int.ofNat 0), []) from zs_pop dL_law_1090), ⟨(show zSim l P zML (zMu q_L_law) 1091 (1, 1750, 0, 0, (Int.ofNat 0), []) from zs_goto 1750 dL_law_1091 (by decide +kernel)), ⟨(show zSim l P zML (zMu q_L_law) 1094 (2, 1095, 1, 2, (Int.ofNat 0), []) from zs_aload_n dL_law_1094 rfl), ⟨(show zSim l P zML (zMu q_L_law) 1095 (2, 1096, 0, 2, (Int.ofNat 0), []) from zs_aload_n dL_law_1095 rfl), ⟨(show zSim l P zML (zMu q_L_law) 1096 (2, 1097, 3, 0, (Int.ofNat 0), []) from zs_iload_n dL_law_1096 rfl), ⟨(show zSim l P zML (zMu q_L_law) 1097 (0, 1098, 0, 0, (Int.ofNat 1), []) from zs_iconst (Int32.ofNat 1) dL_law_1097 (by decide +kernel) (by decide +kernel)), ⟨(show zSim l P zML (zMu q_L_law) 1098 (7, 1099, 0, 0, (Int.ofNat 0), []) from zs_iadd dL_law_1098), ⟨(show zSim l P zML (zMu q_L_law) 1099 (22, 1100, 0, 0, (Int.ofNat 0), []) from zs_iald dL_law_1099), ⟨(show zSim l P zML (zMu q_L_law) 1100 (29, 1103, 191, 2, (Int.ofNat 11), [((Int.ofNat 0), 3)]) from zs_callV 11 q_X11_way m_X11_way (Nat.le_of_ble_eq_true rfl) dL_law_1100 rfl (xvc_11) w_1499 w_1500 w_1501 w_1498 w_625 h_X11_way), ⟨(show zSim l P zML (zMu q_L_law) 1103 (15, 1104, 0, 0, (Int.ofNat 0), []) from zs_pop dL_law_1103), trivial⟩⟩⟩⟩⟩⟩⟩⟩⟩⟩
theorem o_zk_L_law_69 {l : Launch} {P : zP} : zAll l P zML (zMu q_L_law) 1104 zk_L_law_69 := ⟨(show zSim l P zML (zMu q_L_law) 1104 (2, 1105, 2, 2, (Int.ofNat 0), []) from zs_aload_n dL_law_1104 rfl), ⟨(show zSim l P zML (zMu q_L_law) 1105 (2, 1106, 0, 2, (Int.ofNat 0), []) from zs_aload_n dL_law_1105 rfl), ⟨(show zSim l P zML (zMu q_L_law) 1106 (2, 1107, 3, 0, (Int.ofNat 0), []) from zs_iload_n dL_law_1106 rfl), ⟨(show zSim l P zML (zMu q_L_law) 1107 (0, 1108, 0, 0, (Int.ofNat 1), []) from zs_iconst (Int32.ofNat 1) dL_law_1107 (by decide +kernel) (by decide +kernel)), ⟨(show zSim l P zML (zMu q_L_law) 1108 (7, 1109, 0, 0, (Int.ofNat 0), []) from zs_iadd dL_law_1108), ⟨(show zSim l P zML (zMu q_L_law) 1109 (22, 1110, 0, 0, (Int.ofNat 0), []) from zs_iald dL_law_1109), ⟨(show zSim l P zML (zMu q_L_law) 1110 (29, 1113, 334, 2, (Int.ofNat 12), [((Int.ofNat 0), 4)]) from zs_callV 12 q_X12_way m_X12_way (Nat.le_of_ble_eq_true rfl) dL_law_1110 rfl (xvc_12) w_1503 w_1504 w_1505 w_1502 w_853 h_X12_way), ⟨(show zSim l P zML (zMu q_L_law) 1113 (15, 1114, 0, 0, (Int.ofNat 0), []) from zs_pop dL_law_1113), ⟨(show zSim l P zML (zMu q_L_law) 1114 (1, 1750, 0, 0, (Int.ofNat 0), []) from zs_goto 1750 dL_law_1114 (by decide +kernel)), ⟨(show zSim l P zML (zMu q_L_law) 1117 (2, 1118, 1, 2, (Int.ofNat 0), []) from zs_aload_n dL_law_1117 rfl), ⟨(show zSim l P zML (zMu q_L_law) 1118 (2, 1119, 0, 2, (Int.ofNat 0), []) from zs_aload_n dL_law_1118 rfl), ⟨(show zSim l P zML (zMu q_L_law) 1119 (2, 1120, 3, 0, (Int.ofNat 0), []) from zs_iload_n dL_law_1119 rfl), trivial⟩⟩⟩⟩⟩⟩⟩⟩⟩⟩⟩⟩
theorem o_zk_L_law_70 {l : Launch} {P : zP} : zAll l P zML (zMu q_L_law) 1120 zk_L_law_70 := ⟨(show zSim l P zML (zMu q_L_law) 1120 (0, 1121, 0, 0, (Int.ofNat 1), []) from zs_iconst (Int32.ofNat 1) dL_law_1120 (by decide +kernel) (by decide +kernel)), ⟨(show zSim l P zML (zMu q_L_law) 1121 (7, 1122, 0, 0, (Int.ofNat 0), []) from zs_iadd dL_law_1121), ⟨(show zSim l P zML (zMu q_L_law) 1122 (22, 1123, 0, 0, (Int.ofNat 0), []) from zs_iald dL_law_1122), ⟨(show zSim l P zML (zMu q_L_law) 1123 (2, 1124, 0, 2, (Int.ofNat 0), []) from zs_aload_n dL_law_1123 rfl), ⟨(show zSim l P zML (zMu q_L_law) 1124 (2, 1125, 3, 0, (Int.ofNat 0), []) from zs_iload_n dL_law_1124 rfl), ⟨(show zSim l P zML (zMu q_L_law) 1125 (0, 1126, 0, 0, (Int.ofNat 2), []) from zs_iconst (Int32.ofNat 2) dL_law_1125 (by decide +kernel) (by decide +kernel)), ⟨(show zSim l P zML (zMu q_L_law) 1126 (7, 1127, 0, 0, (Int.ofNat 0), []) from zs_iadd dL_law_1126), ⟨(show zSim l P zML (zMu q_L_law) 1127 (22, 1128, 0, 0, (Int.ofNat 0), []) from zs_iald dL_law_1127), ⟨(show zSim l P zML (zMu q_L_law) 1128 (29, 1131, 192, 3, (Int.ofNat 11), [((Int.ofNat 0), 3)]) from zs_callV 11 q_X11_wayAt m_X11_wayAt (Nat.le_of_ble_eq_true rfl) dL_law_1128 rfl (xvc_11) w_1507 w_1508 w_1509 w_1506 w_625 h_X11_wayAt), ⟨(show zSim l P zML (zMu q_L_law) 1131 (15, 1132, 0, 0, (Int.ofNat 0), []) from zs_pop dL_law_1131), ⟨(show zSim l P zML (zMu q_L_law) 1132 (2, 1133, 2, 2, (Int.ofNat 0), []) from zs_aload_n dL_law_1132 rfl), ⟨(show zSim l P zML (zMu q_L_law) 1133 (2, 1134, 0, 2, (Int.ofNat 0), []) from zs_aload_n dL_law_1133 rfl), ⟨(show zSim l P zML (zMu q_L_law) 1134 (2, 1135, 3, 0, (Int.ofNat 0), []) from zs_iload_n dL_law_1134 rfl), ⟨(show zSim l P zML (zMu q_L_law) 1135 (0, 1136, 0, 0, (Int.ofNat 1), []) from zs_iconst (Int32.ofNat 1) dL_law_1135 (by decide +kernel) (by decide +kernel)), trivial⟩⟩⟩⟩⟩⟩⟩⟩⟩⟩⟩⟩⟩⟩
theorem o_zk_L_law_71 {l : Launch} {P : zP} : zAll l P zML (zMu q_L_law) 1136 zk_L_law_71 := ⟨(show zSim l P zML (zMu q_L_law) 1136 (7, 1137, 0, 0, (Int.ofNat 0), []) from zs_iadd dL_law_1136), ⟨(show zSim l P zML (zMu q_L_law) 1137 (22, 1138, 0, 0, (Int.ofNat 0), []) from zs_iald dL_law_1137), ⟨(show zSim l P zML (zMu q_L_law) 1138 (2, 1139, 0, 2, (Int.ofNat 0), []) from zs_aload_n dL_law_1138 rfl), ⟨(show zSim l P zML (zMu q_L_law) 1139 (2, 1140, 3, 0, (Int.ofNat 0), []) from zs_iload_n dL_law_1139 rfl), ⟨(show zSim l P zML (zMu q_L_law) 1140 (0, 1141, 0, 0, (Int.ofNat 2), []) from zs_iconst (Int32.ofNat 2) dL_law_1140 (by decide +kernel) (by decide +kernel)), ⟨(show zSim l P zML (zMu q_L_law) 1141 (7, 1142, 0, 0, (Int.ofNat 0), []) from zs_iadd dL_law_1141), ⟨(show zSim l P zML (zMu q_L_law) 1142 (22, 1143, 0, 0, (Int.ofNat 0), []) from zs_iald dL_law_1142), ⟨(show zSim l P zML (zMu q_L_law) 1143 (29, 1146, 335, 3, (Int.ofNat 12), [((Int.ofNat 0), 3)]) from zs_callV 12 q_X12_wayAt m_X12_wayAt (Nat.le_of_ble_eq_true rfl) dL_law_1143 rfl (xvc_12) w_1511 w_1512 w_1513 w_1510 w_853 h_X12_wayAt), ⟨(show zSim l P zML (zMu q_L_law) 1146 (15, 1147, 0, 0, (Int.ofNat 0), []) from zs_pop dL_law_1146), ⟨(show zSim l P zML (zMu q_L_law) 1147 (1, 1750, 0, 0, (Int.ofNat 0), []) from zs_goto 1750 dL_law_1147 (by decide +kernel)), ⟨(show zSim l P zML (zMu q_L_law) 1150 (2, 1151, 1, 2, (Int.ofNat 0), []) from zs_aload_n dL_law_1150 rfl), ⟨(show zSim l P zML (zMu q_L_law) 1151 (2, 1152, 0, 2, (Int.ofNat 0), []) from zs_aload_n dL_law_1151 rfl), trivial⟩⟩⟩⟩⟩⟩⟩⟩⟩⟩⟩⟩
theorem o_zk_L_law_72 {l : Launch} {P : zP} : zAll l P zML (zMu q_L_law) 1152 zk_L_law_72 := ⟨(show zSim l P zML (zMu q_L_law) 1152 (2, 1153, 3, 0, (Int.ofNat 0), []) from zs_iload_n dL_law_1152 rfl), ⟨(show zSim l P zML (zMu q_L_law) 1153 (0, 1154, 0, 0, (Int.ofNat 1), []) from zs_iconst (Int32.ofNat 1) dL_law_1153 (by decide +kernel) (by decide +kernel)), ⟨(show zSim l P zML (zMu q_L_law) 1154 (7, 1155, 0, 0, (Int.ofNat 0), []) from zs_iadd dL_law_1154), ⟨(show zSim l P zML (zMu q_L_law) 1155 (22, 1156, 0, 0, (Int.ofNat 0), []) from zs_iald dL_law_1155), ⟨(show zSim l P zML (zMu q_L_law) 1156 (29, 1159, 164, 2, (Int.ofNat 11), [((Int.ofNat 0), 3)]) from zs_callV 11 q_X11_march m_X11_march (Nat.le_of_ble_eq_true rfl) dL_law_1156 rfl (xvc_11) w_1515 w_1516 w_1517 w_1514 w_625 h_X11_march), ⟨(show zSim l P zML (zMu q_L_law) 1159 (15, 1160, 0, 0, (Int.ofNat 0), []) from zs_pop dL_law_1159), ⟨(show zSim l P zML (zMu q_L_law) 1160 (2, 1161, 2, 2, (Int.ofNat 0), []) from zs_aload_n dL_law_1160 rfl), ⟨(show zSim l P zML (zMu q_L_law) 1161 (2, 1162, 0, 2, (Int.ofNat 0), []) from zs_aload_n dL_law_1161 rfl), ⟨(show zSim l P zML (zMu q_L_law) 1162 (2, 1163, 3, 0, (Int.ofNat 0), []) from zs_iload_n dL_law_1162 rfl), ⟨(show zSim l P zML (zMu q_L_law) 1163 (0, 1164, 0, 0, (Int.ofNat 1), []) from zs_iconst (Int32.ofNat 1) dL_law_1163 (by decide +kernel) (by decide +kernel)), ⟨(show zSim l P zML (zMu q_L_law) 1164 (7, 1165, 0, 0, (Int.ofNat 0), []) from zs_iadd dL_law_1164), ⟨(show zSim l P zML (zMu q_L_law) 1165 (22, 1166, 0, 0, (Int.ofNat 0), []) from zs_iald dL_law_1165), ⟨(show zSim l P zML (zMu q_L_law) 1166 (29, 1169, 274, 2, (Int.ofNat 12), [((Int.ofNat 0), 3)]) from zs_callV 12 q_X12_march m_X12_march (Nat.le_of_ble_eq_true rfl) dL_law_1166 rfl (xvc_12) w_1519 w_1520 w_1521 w_1518 w_853 h_X12_march), trivial⟩⟩⟩⟩⟩⟩⟩⟩⟩⟩⟩⟩⟩
theorem o_zk_L_law_73 {l : Launch} {P : zP} : zAll l P zML (zMu q_L_law) 1168 zk_L_law_73 := ⟨(show zSim l P zML (zMu q_L_law) 1169 (15, 1170, 0, 0, (Int.ofNat 0), []) from zs_pop dL_law_1169), ⟨(show zSim l P zML (zMu q_L_law) 1170 (1, 1750, 0, 0, (Int.ofNat 0), []) from zs_goto 1750 dL_law_1170 (by decide +kernel)), ⟨(show zSim l P zML (zMu q_L_law) 1173 (2, 1174, 1, 2, (Int.ofNat 0), []) from zs_aload_n dL_law_1173 rfl), ⟨(show zSim l P zML (zMu q_L_law) 1174 (29, 1177, 183, 1, (Int.ofNat 11), [((Int.ofNat 0), 1)]) from zs_callV 11 q_X11_stuck m_X11_stuck (Nat.le_of_ble_eq_true rfl) dL_law_1174 rfl (xvc_11) w_1523 w_1524 w_1525 w_1522 w_625 h_X11_stuck), ⟨(show zSim l P zML (zMu q_L_law) 1177 (15, 1178, 0, 0, (Int.ofNat 0), []) from zs_pop dL_law_1177), ⟨(show zSim l P zML (zMu q_L_law) 1178 (2, 1179, 2, 2, (Int.ofNat 0), []) from zs_aload_n dL_law_1178 rfl), ⟨(show zSim l P zML (zMu q_L_law) 1179 (29, 1182, 319, 1, (Int.ofNat 12), [((Int.ofNat 0), 1)]) from zs_callV 12 q_X12_stuck m_X12_stuck (Nat.le_of_ble_eq_true rfl) dL_law_1179 rfl (xvc_12) w_1527 w_1528 w_1529 w_1526 w_853 h_X12_stuck), ⟨(show zSim l P zML (zMu q_L_law) 1182 (15, 1183, 0, 0, (Int.ofNat 0), []) from zs_pop dL_law_1182), ⟨(show zSim l P zML (zMu q_L_law) 1183 (1, 1750, 0, 0, (Int.ofNat 0), []) from zs_goto 1750 dL_law_1183 (by decide +kernel)), trivial⟩⟩⟩⟩⟩⟩⟩⟩⟩
theorem o_zk_L_law_74 {l : Launch} {P : zP} : zAll l P zML (zMu q_L_law) 1184 zk_L_law_74 := ⟨(show zSim l P zML (zMu q_L_law) 1186 (2, 1187, 1, 2, (Int.ofNat 0), []) from zs_aload_n dL_law_1186 rfl), ⟨(show zSim l P zML (zMu q_L_law) 1187 (2, 1188, 0, 2, (Int.ofNat 0), []) from zs_aload_n dL_law_1187 rfl), ⟨(show zSim l P zML (zMu q_L_law) 1188 (2, 1189, 3, 0, (Int.ofNat 0), []) from zs_iload_n dL_law_1188 rfl), ⟨(show zSim l P zML (zMu q_L_law) 1189 (0, 1190, 0, 0, (Int.ofNat 1), []) from zs_iconst (Int32.ofNat 1) dL_law_1189 (by decide +kernel) (by decide +kernel)), ⟨(show zSim l P zML (zMu q_L_law) 1190 (7, 1191, 0, 0, (Int.ofNat 0), []) from zs_iadd dL_law_1190), ⟨(show zSim l P zML (zMu q_L_law) 1191 (22, 1192, 0, 0, (Int.ofNat 0), []) from zs_iald dL_law_1191), ⟨(show zSim l P zML (zMu q_L_law) 1192 (29, 1195, 189, 2, (Int.ofNat 11), [((Int.ofNat 0), 3)]) from zs_callV 11 q_X11_truly m_X11_truly (Nat.le_of_ble_eq_true rfl) dL_law_1192 rfl (xvc_11) w_1531 w_1532 w_1533 w_1530 w_625 h_X11_truly), ⟨(show zSim l P zML (zMu q_L_law) 1195 (15, 1196, 0, 0, (Int.ofNat 0), []) from zs_pop dL_law_1195), ⟨(show zSim l P zML (zMu q_L_law) 1196 (2, 1197, 2, 2, (Int.ofNat 0), []) from zs_aload_n dL_law_1196 rfl), ⟨(show zSim l P zML (zMu q_L_law) 1197 (2, 1198, 0, 2, (Int.ofNat 0), []) from zs_aload_n dL_law_1197 rfl), ⟨(show zSim l P zML (zMu q_L_law) 1198 (2, 1199, 3, 0, (Int.ofNat 0), []) from zs_iload_n dL_law_1198 rfl), ⟨(show zSim l P zML (zMu q_L_law) 1199 (0, 1200, 0, 0, (Int.ofNat 1), []) from zs_iconst (Int32.ofNat 1) dL_law_1199 (by decide +kernel) (by decide +kernel)), trivial⟩⟩⟩⟩⟩⟩⟩⟩⟩⟩⟩⟩
theorem o_zk_L_law_75 {l : Launch} {P : zP} : zAll l P zML (zMu q_L_law) 1200 zk_L_law_75 := ⟨(show zSim l P zML (zMu q_L_law) 1200 (7, 1201, 0, 0, (Int.ofNat 0), []) from zs_iadd dL_law_1200), ⟨(show zSim l P zML (zMu q_L_law) 1201 (22, 1202, 0, 0, (Int.ofNat 0), []) from zs_iald dL_law_1201), ⟨(show zSim l P zML (zMu q_L_law) 1202 (29, 1205, 331, 2, (Int.ofNat 12), [((Int.ofNat 0), 4)]) from zs_callV 12 q_X12_truly m_X12_truly (Nat.le_of_ble_eq_true rfl) dL_law_1202 rfl (xvc_12) w_1535 w_1536 w_1537 w_1534 w_853 h_X12_truly), ⟨(show zSim l P zML (zMu q_L_law) 1205 (15, 1206, 0, 0, (Int.ofNat 0), []) from zs_pop dL_law_1205), ⟨(show zSim l P zML (zMu q_L_law) 1206 (1, 1750, 0, 0, (Int.ofNat 0), []) from zs_goto 1750 dL_law_1206 (by decide +kernel)), ⟨(show zSim l P zML (zMu q_L_law) 1209 (2, 1210, 1, 2, (Int.ofNat 0), []) from zs_aload_n dL_law_1209 rfl), ⟨(show zSim l P zML (zMu q_L_law) 1210 (2, 1211, 0, 2, (Int.ofNat 0), []) from zs_aload_n dL_law_1210 rfl), ⟨(show zSim l P zML (zMu q_L_law) 1211 (2, 1212, 3, 0, (Int.ofNat 0), []) from zs_iload_n dL_law_1211 rfl), ⟨(show zSim l P zML (zMu q_L_law) 1212 (0, 1213, 0, 0, (Int.ofNat 1), []) from zs_iconst (Int32.ofNat 1) dL_law_1212 (by decide +kernel) (by decide +kernel)), ⟨(show zSim l P zML (zMu q_L_law) 1213 (7, 1214, 0, 0, (Int.ofNat 0), []) from zs_iadd dL_law_1213), ⟨(show zSim l P zML (zMu q_L_law) 1214 (22, 1215, 0, 0, (Int.ofNat 0), []) from zs_iald dL_law_1214), ⟨(show zSim l P zML (zMu q_L_law) 1215 (29, 1218, 145, 2, (Int.ofNat 11), [((Int.ofNat 0), 3)]) from zs_callV 11 q_X11_best m_X11_best (Nat.le_of_ble_eq_true rfl) dL_law_1215 rfl (xvc_11) w_1539 w_1540 w_1541 w_1538 w_625 h_X11_best), trivial⟩⟩⟩⟩⟩⟩⟩⟩⟩⟩⟩⟩
theorem o_zk_L_law_76 {l : Launch} {P : zP} : zAll l P zML (zMu q_L_law) 1216 zk_L_law_76 := ⟨(show zSim l P zML (zMu q_L_law) 1218 (15, 1219, 0, 0, (Int.ofNat 0), []) from zs_pop dL_law_1218), ⟨(show zSim l P zML (zMu q_L_law) 1219 (2, 1220, 2, 2, (Int.ofNat 0), []) from zs_aload_n dL_law_1219 rfl), ⟨(show zSim l P zML (zMu q_L_law) 1220 (2, 1221, 0, 2, (Int.ofNat 0), []) from zs_aload_n dL_law_1220 rfl), ⟨(show zSim l P zML (zMu q_L_law) 1221 (2, 1222, 3, 0, (Int.ofNat 0), []) from zs_iload_n dL_law_1221 rfl), ⟨(show zSim l P zML (zMu q_L_law) 1222 (0, 1223, 0, 0, (Int.ofNat 1), []) from zs_iconst (Int32.ofNat 1) dL_law_1222 (by decide +kernel) (by decide +kernel)), ⟨(show zSim l P zML (zMu q_L_law) 1223 (7, 1224, 0, 0, (Int.ofNat 0), []) from zs_iadd dL_law_1223), ⟨(show zSim l P zML (zMu q_L_law) 1224 (22, 1225, 0, 0, (Int.ofNat 0), []) from zs_iald dL_law_1224), ⟨(show zSim l P zML (zMu q_L_law) 1225 (29, 1228, 201, 2, (Int.ofNat 12), [((Int.ofNat 0), 3)]) from zs_callV 12 q_X12_best m_X12_best (Nat.le_of_ble_eq_true rfl) dL_law_1225 rfl (xvc_12) w_1543 w_1544 w_1545 w_1542 w_853 h_X12_best), ⟨(show zSim l P zML (zMu q_L_law) 1228 (15, 1229, 0, 0, (Int.ofNat 0), []) from zs_pop dL_law_1228), ⟨(show zSim l P zML (zMu q_L_law) 1229 (1, 1750, 0, 0, (Int.ofNat 0), []) from zs_goto 1750 dL_law_1229 (by decide +kernel)), trivial⟩⟩⟩⟩⟩⟩⟩⟩⟩⟩
theorem o_zk_L_law_77 {l : Launch} {P : zP} : zAll l P zML (zMu q_L_law) 1232 zk_L_law_77 := ⟨(show zSim l P zML (zMu q_L_law) 1232 (2, 1233, 1, 2, (Int.ofNat 0), []) from zs_aload_n dL_law_1232 rfl), ⟨(show zSim l P zML (zMu q_L_law) 1233 (2, 1234, 0, 2, (Int.ofNat 0), []) from zs_aload_n dL_law_1233 rfl), ⟨(show zSim l P zML (zMu q_L_law) 1234 (2, 1235, 3, 0, (Int.ofNat 0), []) from zs_iload_n dL_law_1234 rfl), ⟨(show zSim l P zML (zMu q_L_law) 1235 (0, 1236, 0, 0, (Int.ofNat 1), []) from zs_iconst (Int32.ofNat 1) dL_law_1235 (by decide +kernel) (by decide +kernel)), ⟨(show zSim l P zML (zMu q_L_law) 1236 (7, 1237, 0, 0, (Int.ofNat 0), []) from zs_iadd dL_law_1236), ⟨(show zSim l P zML (zMu q_L_law) 1237 (22, 1238, 0, 0, (Int.ofNat 0), []) from zs_iald dL_law_1237), ⟨(show zSim l P zML (zMu q_L_law) 1238 (2, 1239, 0, 2, (Int.ofNat 0), []) from zs_aload_n dL_law_1238 rfl), ⟨(show zSim l P zML (zMu q_L_law) 1239 (2, 1240, 3, 0, (Int.ofNat 0), []) from zs_iload_n dL_law_1239 rfl), ⟨(show zSim l P zML (zMu q_L_law) 1240 (0, 1241, 0, 0, (Int.ofNat 2), []) from zs_iconst (Int32.ofNat 2) dL_law_1240 (by decide +kernel) (by decide +kernel)), ⟨(show zSim l P zML (zMu q_L_law) 1241 (7, 1242, 0, 0, (Int.ofNat 0), []) from zs_iadd dL_law_1241), ⟨(show zSim l P zML (zMu q_L_law) 1242 (22, 1243, 0, 0, (Int.ofNat 0), []) from zs_iald dL_law_1242), ⟨(show zSim l P zML (zMu q_L_law) 1243 (29, 1246, 158, 3, (Int.ofNat 11), [((Int.ofNat 0), 3)]) from zs_callV 11 q_X11_hand m_X11_hand (Nat.le_of_ble_eq_true rfl) dL_law_1243 rfl (xvc_11) w_1547 w_1548 w_1549 w_1546 w_625 h_X11_hand), ⟨(show zSim l P zML (zMu q_L_law) 1246 (15, 1247, 0, 0, (Int.ofNat 0), []) from zs_pop dL_law_1246), ⟨(show zSim l P zML (zMu q_L_law) 1247 (2, 1248, 2, 2, (Int.ofNat 0), []) from zs_aload_n dL_law_1247 rfl), trivial⟩⟩⟩⟩⟩⟩⟩⟩⟩⟩⟩⟩⟩⟩
theorem o_zk_L_law_78 {l : Launch} {P : zP} : zAll l P zML (zMu q_L_law) 1248 zk_L_law_78 := ⟨(show zSim l P zML (zMu q_L_law) 1248 (2, 1249, 0, 2, (Int.ofNat 0), []) from zs_aload_n dL_law_1248 rfl), ⟨(show zSim l P zML (zMu q_L_law) 1249 (2, 1250, 3, 0, (Int.ofNat 0), []) from zs_iload_n dL_law_1249 rfl), ⟨(show zSim l P zML (zMu q_L_law) 1250 (0, 1251, 0, 0, (Int.ofNat 1), []) from zs_iconst (Int32.ofNat 1) dL_law_1250 (by decide +kernel) (by decide +kernel)), ⟨(show zSim l P zML (zMu q_L_law) 1251 (7, 1252, 0, 0, (Int.ofNat 0), []) from zs_iadd dL_law_1251), ⟨(show zSim l P zML (zMu q_L_law) 1252 (22, 1253, 0, 0, (Int.ofNat 0), []) from zs_iald dL_law_1252), ⟨(show zSim l P zML (zMu q_L_law) 1253 (2, 1254, 0, 2, (Int.ofNat 0), []) from zs_aload_n dL_law_1253 rfl), ⟨(show zSim l P zML (zMu q_L_law) 1254 (2, 1255, 3, 0, (Int.ofNat 0), []) from zs_iload_n dL_law_1254 rfl), ⟨(show zSim l P zML (zMu q_L_law) 1255 (0, 1256, 0, 0, (Int.ofNat 2), []) from zs_iconst (Int32.ofNat 2) dL_law_1255 (by decide +kernel) (by decide +kernel)), ⟨(show zSim l P zML (zMu q_L_law) 1256 (7, 1257, 0, 0, (Int.ofNat 0), []) from zs_iadd dL_law_1256), ⟨(show zSim l P zML (zMu q_L_law) 1257 (22, 1258, 0, 0, (Int.ofNat 0), []) from zs_iald dL_law_1257), ⟨(show zSim l P zML (zMu q_L_law) 1258 (29, 1261, 236, 3, (Int.ofNat 12), [((Int.ofNat 0), 3)]) from zs_callV 12 q_X12_hand m_X12_hand (Nat.le_of_ble_eq_true rfl) dL_law_1258 rfl (xvc_12) w_1551 w_1552 w_1553 w_1550 w_853 h_X12_hand), ⟨(show zSim l P zML (zMu q_L_law) 1261 (15, 1262, 0, 0, (Int.ofNat 0), []) from zs_pop dL_law_1261), ⟨(show zSim l P zML (zMu q_L_law) 1262 (1, 1750, 0, 0, (Int.ofNat 0), []) from zs_goto 1750 dL_law_1262 (by decide +kernel)), trivial⟩⟩⟩⟩⟩⟩⟩⟩⟩⟩⟩⟩⟩
theorem o_zk_L_law_79 {l : Launch} {P : zP} : zAll l P zML (zMu q_L_law) 1264 zk_L_law_79 := ⟨(show zSim l P zML (zMu q_L_law) 1265 (2, 1266, 1, 2, (Int.ofNat 0), []) from zs_aload_n dL_law_1265 rfl), ⟨(show zSim l P zML (zMu q_L_law) 1266 (29, 1269, 174, 1, (Int.ofNat 11), [((Int.ofNat 0), 3)]) from zs_callV 11 q_X11_reach m_X11_reach (Nat.le_of_ble_eq_true rfl) dL_law_1266 rfl (xvc_11) w_1555 w_1556 w_1557 w_1554 w_625 h_X11_reach), ⟨(show zSim l P zML (zMu q_L_law) 1269 (15, 1270, 0, 0, (Int.ofNat 0), []) from zs_pop dL_law_1269), ⟨(show zSim l P zML (zMu q_L_law) 1270 (2, 1271, 2, 2, (Int.ofNat 0), []) from zs_aload_n dL_law_1270 rfl), ⟨(show zSim l P zML (zMu q_L_law) 1271 (29, 1274, 293, 1, (Int.ofNat 12), [((Int.ofNat 0), 3)]) from zs_callV 12 q_X12_reach m_X12_reach (Nat.le_of_ble_eq_true rfl) dL_law_1271 rfl (xvc_12) w_1559 w_1560 w_1561 w_1558 w_853 h_X12_reach), ⟨(show zSim l P zML (zMu q_L_law) 1274 (15, 1275, 0, 0, (Int.ofNat 0), []) from zs_pop dL_law_1274), ⟨(show zSim l P zML (zMu q_L_law) 1275 (1, 1750, 0, 0, (Int.ofNat 0), []) from zs_goto 1750 dL_law_1275 (by decide +kernel)), ⟨(show zSim l P zML (zMu q_L_law) 1278 (2, 1279, 1, 2, (Int.ofNat 0), []) from zs_aload_n dL_law_1278 rfl), ⟨(show zSim l P zML (zMu q_L_law) 1279 (2, 1280, 0, 2, (Int.ofNat 0), []) from zs_aload_n dL_law_1279 rfl), trivial⟩⟩⟩⟩⟩⟩⟩⟩⟩
theorem o_zk_L_law_80 {l : Launch} {P : zP} : zAll l P zML (zMu q_L_law) 1280 zk_L_law_80 := ⟨(show zSim l P zML (zMu q_L_law) 1280 (2, 1281, 3, 0, (Int.ofNat 0), []) from zs_iload_n dL_law_1280 rfl), ⟨(show zSim l P zML (zMu q_L_law) 1281 (0, 1282, 0, 0, (Int.ofNat 1), []) from zs_iconst (Int32.ofNat 1) dL_law_1281 (by decide +kernel) (by decide +kernel)), ⟨(show zSim l P zML (zMu q_L_law) 1282 (7, 1283, 0, 0, (Int.ofNat 0), []) from zs_iadd dL_law_1282), ⟨(show zSim l P zML (zMu q_L_law) 1283 (22, 1284, 0, 0, (Int.ofNat 0), []) from zs_iald dL_law_1283), ⟨(show zSim l P zML (zMu q_L_law) 1284 (2, 1285, 0, 2, (Int.ofNat 0), []) from zs_aload_n dL_law_1284 rfl), ⟨(show zSim l P zML (zMu q_L_law) 1285 (2, 1286, 3, 0, (Int.ofNat 0), []) from zs_iload_n dL_law_1285 rfl), ⟨(show zSim l P zML (zMu q_L_law) 1286 (0, 1287, 0, 0, (Int.ofNat 2), []) from zs_iconst (Int32.ofNat 2) dL_law_1286 (by decide +kernel) (by decide +kernel)), ⟨(show zSim l P zML (zMu q_L_law) 1287 (7, 1288, 0, 0, (Int.ofNat 0), []) from zs_iadd dL_law_1287), ⟨(show zSim l P zML (zMu q_L_law) 1288 (22, 1289, 0, 0, (Int.ofNat 0), []) from zs_iald dL_law_1288), ⟨(show zSim l P zML (zMu q_L_law) 1289 (29, 1292, 179, 3, (Int.ofNat 11), [((Int.ofNat 0), 5)]) from zs_callV 11 q_X11_seen m_X11_seen (Nat.le_of_ble_eq_true rfl) dL_law_1289 rfl (xvc_11) w_1563 w_1564 w_1565 w_1562 w_625 h_X11_seen), ⟨(show zSim l P zML (zMu q_L_law) 1292 (15, 1293, 0, 0, (Int.ofNat 0), []) from zs_pop dL_law_1292), ⟨(show zSim l P zML (zMu q_L_law) 1293 (2, 1294, 2, 2, (Int.ofNat 0), []) from zs_aload_n dL_law_1293 rfl), ⟨(show zSim l P zML (zMu q_L_law) 1294 (2, 1295, 0, 2, (Int.ofNat 0), []) from zs_aload_n dL_law_1294 rfl), ⟨(show zSim l P zML (zMu q_L_law) 1295 (2, 1296, 3, 0, (Int.ofNat 0), []) from zs_iload_n dL_law_1295 rfl), trivial⟩⟩⟩⟩⟩⟩⟩⟩⟩⟩⟩⟩⟩⟩
theorem o_zk_L_law_81 {l : Launch} {P : zP} : zAll l P zML (zMu q_L_law) 1296 zk_L_law_81 := ⟨(show zSim l P zML (zMu q_L_law) 1296 (0, 1297, 0, 0, (Int.ofNat 1), []) from zs_iconst (Int32.ofNat 1) dL_law_1296 (by decide +kernel) (by decide +kernel)), ⟨(show zSim l P zML (zMu q_L_law) 1297 (7, 1298, 0, 0, (Int.ofNat 0), []) from zs_iadd dL_law_1297), ⟨(show zSim l P zML (zMu q_L_law) 1298 (22, 1299, 0, 0, (Int.ofNat 0), []) from zs_iald dL_law_1298), ⟨(show zSim l P zML (zMu q_L_law) 1299 (2, 1300, 0, 2, (Int.ofNat 0), []) from zs_aload_n dL_law_1299 rfl), ⟨(show zSim l P zML (zMu q_L_law) 1300 (2, 1301, 3, 0, (Int.ofNat 0), []) from zs_iload_n dL_law_1300 rfl), ⟨(show zSim l P zML (zMu q_L_law) 1301 (0, 1302, 0, 0, (Int.ofNat 2), []) from zs_iconst (Int32.ofNat 2) dL_law_1301 (by decide +kernel) (by decide +kernel)), ⟨(show zSim l P zML (zMu q_L_law) 1302 (7, 1303, 0, 0, (Int.ofNat 0), []) from zs_iadd dL_law_1302), ⟨(show zSim l P zML (zMu q_L_law) 1303 (22, 1304, 0, 0, (Int.ofNat 0), []) from zs_iald dL_law_1303), ⟨(show zSim l P zML (zMu q_L_law) 1304 (29, 1307, 309, 3, (Int.ofNat 12), [((Int.ofNat 0), 5)]) from zs_callV 12 q_X12_seen m_X12_seen (Nat.le_of_ble_eq_true rfl) dL_law_1304 rfl (xvc_12) w_1567 w_1568 w_1569 w_1566 w_853 h_X12_seen), ⟨(show zSim l P zML (zMu q_L_law) 1307 (15, 1308, 0, 0, (Int.ofNat 0), []) from zs_pop dL_law_1307), ⟨(show zSim l P zML (zMu q_L_law) 1308 (1, 1750, 0, 0, (Int.ofNat 0), []) from zs_goto 1750 dL_law_1308 (by decide +kernel)), ⟨(show zSim l P zML (zMu q_L_law) 1311 (2, 1312, 1, 2, (Int.ofNat 0), []) from zs_aload_n dL_law_1311 rfl), trivial⟩⟩⟩⟩⟩⟩⟩⟩⟩⟩⟩⟩
theorem o_zk_L_law_82 {l : Launch} {P : zP} : zAll l P zML (zMu q_L_law) 1312 zk_L_law_82 := ⟨(show zSim l P zML (zMu q_L_law) 1312 (2, 1313, 0, 2, (Int.ofNat 0), []) from zs_aload_n dL_law_1312 rfl), ⟨(show zSim l P zML (zMu q_L_law) 1313 (2, 1314, 3, 0, (Int.ofNat 0), []) from zs_iload_n dL_law_1313 rfl), ⟨(show zSim l P zML (zMu q_L_law) 1314 (0, 1315, 0, 0, (Int.ofNat 1), []) from zs_iconst (Int32.ofNat 1) dL_law_1314 (by decide +kernel) (by decide +kernel)), ⟨(show zSim l P zML (zMu q_L_law) 1315 (7, 1316, 0, 0, (Int.ofNat 0), []) from zs_iadd dL_law_1315), ⟨(show zSim l P zML (zMu q_L_law) 1316 (22, 1317, 0, 0, (Int.ofNat 0), []) from zs_iald dL_law_1316), ⟨(show zSim l P zML (zMu q_L_law) 1317 (2, 1318, 0, 2, (Int.ofNat 0), []) from zs_aload_n dL_law_1317 rfl), ⟨(show zSim l P zML (zMu q_L_law) 1318 (2, 1319, 3, 0, (Int.ofNat 0), []) from zs_iload_n dL_law_1318 rfl), ⟨(show zSim l P zML (zMu q_L_law) 1319 (0, 1320, 0, 0, (Int.ofNat 2), []) from zs_iconst (Int32.ofNat 2) dL_law_1319 (by decide +kernel) (by decide +kernel)), ⟨(show zSim l P zML (zMu q_L_law) 1320 (7, 1321, 0, 0, (Int.ofNat 0), []) from zs_iadd dL_law_1320), ⟨(show zSim l P zML (zMu q_L_law) 1321 (22, 1322, 0, 0, (Int.ofNat 0), []) from zs_iald dL_law_1321), ⟨(show zSim l P zML (zMu q_L_law) 1322 (2, 1323, 0, 2, (Int.ofNat 0), []) from zs_aload_n dL_law_1322 rfl), ⟨(show zSim l P zML (zMu q_L_law) 1323 (2, 1324, 3, 0, (Int.ofNat 0), []) from zs_iload_n dL_law_1323 rfl), ⟨(show zSim l P zML (zMu q_L_law) 1324 (0, 1325, 0, 0, (Int.ofNat 3), []) from zs_iconst (Int32.ofNat 3) dL_law_1324 (by decide +kernel) (by decide +kernel)), ⟨(show zSim l P zML (zMu q_L_law) 1325 (7, 1326, 0, 0, (Int.ofNat 0), []) from zs_iadd dL_law_1325), ⟨(show zSim l P zML (zMu q_L_law) 1326 (22, 1327, 0, 0, (Int.ofNat 0), []) from zs_iald dL_law_1326), ⟨(show zSim l P zML (zMu q_L_law) 1327 (29, 1330, 184, 4, (Int.ofNat 11), [((Int.ofNat 0), 4)]) from zs_callV 11 q_X11_supper m_X11_supper (Nat.le_of_ble_eq_true rfl) dL_law_1327 rfl (xvc_11) w_1571 w_1572 w_1573 w_1570 w_625 h_X11_supper), trivial⟩⟩⟩⟩⟩⟩⟩⟩⟩⟩⟩⟩⟩⟩⟩⟩
theorem o_zk_L_law_83 {l : Launch} {P : zP} : zAll l P zML (zMu q_L_law) 1328 zk_L_law_83 := ⟨(show zSim l P zML (zMu q_L_law) 1330 (15, 1331, 0, 0, (Int.ofNat 0), []) from zs_pop dL_law_1330), ⟨(show zSim l P zML (zMu q_L_law) 1331 (2, 1332, 2, 2, (Int.ofNat 0), []) from zs_aload_n dL_law_1331 rfl), ⟨(show zSim l P zML (zMu q_L_law) 1332 (2, 1333, 0, 2, (Int.ofNat 0), []) from zs_aload_n dL_law_1332 rfl), ⟨(show zSim l P zML (zMu q_L_law) 1333 (2, 1334, 3, 0, (Int.ofNat 0), []) from zs_iload_n dL_law_1333 rfl), ⟨(show zSim l P zML (zMu q_L_law) 1334 (0, 1335, 0, 0, (Int.ofNat 1), []) from zs_iconst (Int32.ofNat 1) dL_law_1334 (by decide +kernel) (by decide +kernel)), ⟨(show zSim l P zML (zMu q_L_law) 1335 (7, 1336, 0, 0, (Int.ofNat 0), []) from zs_iadd dL_law_1335), ⟨(show zSim l P zML (zMu q_L_law) 1336 (22, 1337, 0, 0, (Int.ofNat 0), []) from zs_iald dL_law_1336), ⟨(show zSim l P zML (zMu q_L_law) 1337 (2, 1338, 0, 2, (Int.ofNat 0), []) from zs_aload_n dL_law_1337 rfl), ⟨(show zSim l P zML (zMu q_L_law) 1338 (2, 1339, 3, 0, (Int.ofNat 0), []) from zs_iload_n dL_law_1338 rfl), ⟨(show zSim l P zML (zMu q_L_law) 1339 (0, 1340, 0, 0, (Int.ofNat 2), []) from zs_iconst (Int32.ofNat 2) dL_law_1339 (by decide +kernel) (by decide +kernel)), ⟨(show zSim l P zML (zMu q_L_law) 1340 (7, 1341, 0, 0, (Int.ofNat 0), []) from zs_iadd dL_law_1340), ⟨(show zSim l P zML (zMu q_L_law) 1341 (22, 1342, 0, 0, (Int.ofNat 0), []) from zs_iald dL_law_1341), ⟨(show zSim l P zML (zMu q_L_law) 1342 (2, 1343, 0, 2, (Int.ofNat 0), []) from zs_aload_n dL_law_1342 rfl), ⟨(show zSim l P zML (zMu q_L_law) 1343 (2, 1344, 3, 0, (Int.ofNat 0), []) from zs_iload_n dL_law_1343 rfl), trivial⟩⟩⟩⟩⟩⟩⟩⟩⟩⟩⟩⟩⟩⟩
theorem o_zk_L_law_84 {l : Launch} {P : zP} : zAll l P zML (zMu q_L_law) 1344 zk_L_law_84 := ⟨(show zSim l P zML (zMu q_L_law) 1344 (0, 1345, 0, 0, (Int.ofNat 3), []) from zs_iconst (Int32.ofNat 3) dL_law_1344 (by decide +kernel) (by decide +kernel)), ⟨(show zSim l P zML (zMu q_L_law) 1345 (7, 1346, 0, 0, (Int.ofNat 0), []) from zs_iadd dL_law_1345), ⟨(show zSim l P zML (zMu q_L_law) 1346 (22, 1347, 0, 0, (Int.ofNat 0), []) from zs_iald dL_law_1346), ⟨(show zSim l P zML (zMu q_L_law) 1347 (29, 1350, 321, 4, (Int.ofNat 12), [((Int.ofNat 0), 8)]) from zs_callV 12 q_X12_supper m_X12_supper (Nat.le_of_ble_eq_true rfl) dL_law_1347 rfl (xvc_12) w_1575 w_1576 w_1577 w_1574 w_853 h_X12_supper), ⟨(show zSim l P zML (zMu q_L_law) 1350 (15, 1351, 0, 0, (Int.ofNat 0), []) from zs_pop dL_law_1350), ⟨(show zSim l P zML (zMu q_L_law) 1351 (1, 1750, 0, 0, (Int.ofNat 0), []) from zs_goto 1750 dL_law_1351 (by decide +kernel)), ⟨(show zSim l P zML (zMu q_L_law) 1354 (2, 1355, 1, 2, (Int.ofNat 0), []) from zs_aload_n dL_law_1354 rfl), ⟨(show zSim l P zML (zMu q_L_law) 1355 (2, 1356, 0, 2, (Int.ofNat 0), []) from zs_aload_n dL_law_1355 rfl), ⟨(show zSim l P zML (zMu q_L_law) 1356 (2, 1357, 3, 0, (Int.ofNat 0), []) from zs_iload_n dL_law_1356 rfl), ⟨(show zSim l P zML (zMu q_L_law) 1357 (0, 1358, 0, 0, (Int.ofNat 1), []) from zs_iconst (Int32.ofNat 1) dL_law_1357 (by decide +kernel) (by decide +kernel)), ⟨(show zSim l P zML (zMu q_L_law) 1358 (7, 1359, 0, 0, (Int.ofNat 0), []) from zs_iadd dL_law_1358), ⟨(show zSim l P zML (zMu q_L_law) 1359 (22, 1360, 0, 0, (Int.ofNat 0), []) from zs_iald dL_law_1359), trivial⟩⟩⟩⟩⟩⟩⟩⟩⟩⟩⟩⟩
theorem o_zk_L_law_85 {l : Launch} {P : zP} : zAll l P zML (zMu q_L_law) 1360 zk_L_law_85 := ⟨(show zSim l P zML (zMu q_L_law) 1360 (29, 1363, 153, 2, (Int.ofNat 11), [((Int.ofNat 0), 2)]) from zs_callV 11 q_X11_cut m_X11_cut (Nat.le_of_ble_eq_true rfl) dL_law_1360 rfl (xvc_11) w_1579 w_1580 w_1581 w_1578 w_625 h_X11_cut), ⟨(show zSim l P zML (zMu q_L_law) 1363 (15, 1364, 0, 0, (Int.ofNat 0), []) from zs_pop dL_law_1363), ⟨(show zSim l P zML (zMu q_L_law) 1364 (2, 1365, 2, 2, (Int.ofNat 0), []) from zs_aload_n dL_law_1364 rfl), ⟨(show zSim l P zML (zMu q_L_law) 1365 (2, 1366, 0, 2, (Int.ofNat 0), []) from zs_aload_n dL_law_1365 rfl), ⟨(show zSim l P zML (zMu q_L_law) 1366 (2, 1367, 3, 0, (Int.ofNat 0), []) from zs_iload_n dL_law_1366 rfl), ⟨(show zSim l P zML (zMu q_L_law) 1367 (0, 1368, 0, 0, (Int.ofNat 1), []) from zs_iconst (Int32.ofNat 1) dL_law_1367 (by decide +kernel) (by decide +kernel)), ⟨(show zSim l P zML (zMu q_L_law) 1368 (7, 1369, 0, 0, (Int.ofNat 0), []) from zs_iadd dL_law_1368), ⟨(show zSim l P zML (zMu q_L_law) 1369 (22, 1370, 0, 0, (Int.ofNat 0), []) from zs_iald dL_law_1369), ⟨(show zSim l P zML (zMu q_L_law) 1370 (29, 1373, 217, 2, (Int.ofNat 12), [((Int.ofNat 0), 3)]) from zs_callV 12 q_X12_cut_ m_X12_cut_ (Nat.le_of_ble_eq_true rfl) dL_law_1370 rfl (xvc_12) w_1583 w_1584 w_1585 w_1582 w_853 h_X12_cut_), ⟨(show zSim l P zML (zMu q_L_law) 1373 (15, 1374, 0, 0, (Int.ofNat 0), []) from zs_pop dL_law_1373), ⟨(show zSim l P zML (zMu q_L_law) 1374 (1, 1750, 0, 0, (Int.ofNat 0), []) from zs_goto 1750 dL_law_1374 (by decide +kernel)), trivial⟩⟩⟩⟩⟩⟩⟩⟩⟩⟩⟩
theorem o_zk_L_law_86 {l : Launch} {P : zP} : zAll l P zML (zMu q_L_law) 1376 zk_L_law_86 := ⟨(show zSim l P zML (zMu q_L_law) 1377 (2, 1378, 1, 2, (Int.ofNat 0), []) from zs_aload_n dL_law_1377 rfl), ⟨(show zSim l P zML (zMu q_L_law) 1378 (2, 1379, 0, 2, (Int.ofNat 0), []) from zs_aload_n dL_law_1378 rfl), ⟨(show zSim l P zML (zMu q_L_law) 1379 (2, 1380, 3, 0, (Int.ofNat 0), []) from zs_iload_n dL_law_1379 rfl), ⟨(show zSim l P zML (zMu q_L_law) 1380 (0, 1381, 0, 0, (Int.ofNat 1), []) from zs_iconst (Int32.ofNat 1) dL_law_1380 (by decide +kernel) (by decide +kernel)), ⟨(show zSim l P zML (zMu q_L_law) 1381 (7, 1382, 0, 0, (Int.ofNat 0), []) from zs_iadd dL_law_1381), ⟨(show zSim l P zML (zMu q_L_law) 1382 (22, 1383, 0, 0, (Int.ofNat 0), []) from zs_iald dL_law_1382), ⟨(show zSim l P zML (zMu q_L_law) 1383 (2, 1384, 0, 2, (Int.ofNat 0), []) from zs_aload_n dL_law_1383 rfl), ⟨(show zSim l P zML (zMu q_L_law) 1384 (2, 1385, 3, 0, (Int.ofNat 0), []) from zs_iload_n dL_law_1384 rfl), ⟨(show zSim l P zML (zMu q_L_law) 1385 (0, 1386, 0, 0, (Int.ofNat 2), []) from zs_iconst (Int32.ofNat 2) dL_law_1385 (by decide +kernel) (by decide +kernel)), ⟨(show zSim l P zML (zMu q_L_law) 1386 (7, 1387, 0, 0, (Int.ofNat 0), []) from zs_iadd dL_law_1386), ⟨(show zSim l P zML (zMu q_L_law) 1387 (22, 1388, 0, 0, (Int.ofNat 0), []) from zs_iald dL_law_1387), ⟨(show zSim l P zML (zMu q_L_law) 1388 (2, 1389, 0, 2, (Int.ofNat 0), []) from zs_aload_n dL_law_1388 rfl), ⟨(show zSim l P zML (zMu q_L_law) 1389 (2, 1390, 3, 0, (Int.ofNat 0), []) from zs_iload_n dL_law_1389 rfl), ⟨(show zSim l P zML (zMu q_L_law) 1390 (0, 1391, 0, 0, (Int.ofNat 3), []) from zs_iconst (Int32.ofNat 3) dL_law_1390 (by decide +kernel) (by decide +kernel)), ⟨(show zSim l P zML (zMu q_L_law) 1391 (7, 1392, 0, 0, (Int.ofNat 0), []) from zs_iadd dL_law_1391), trivial⟩⟩⟩⟩⟩⟩⟩⟩⟩⟩⟩⟩⟩⟩⟩
theorem o_zk_L_law_87 {l : Launch} {P : zP} : zAll l P zML (zMu q_L_law) 1392 zk_L_law_87 := ⟨(show zSim l P zML (zMu q_L_law) 1392 (22, 1393, 0, 0, (Int.ofNat 0), []) from zs_iald dL_law_1392), ⟨(show zSim l P zML (zMu q_L_law) 1393 (29, 1396, 194, 4, (Int.ofNat 11), [((Int.ofNat 0), 5)]) from zs_callV 11 q_X11_worth m_X11_worth (Nat.le_of_ble_eq_true rfl) dL_law_1393 rfl (xvc_11) w_1587 w_1588 w_1589 w_1586 w_625 h_X11_worth), ⟨(show zSim l P zML (zMu q_L_law) 1396 (15, 1397, 0, 0, (Int.ofNat 0), []) from zs_pop dL_law_1396), ⟨(show zSim l P zML (zMu q_L_law) 1397 (2, 1398, 2, 2, (Int.ofNat 0), []) from zs_aload_n dL_law_1397 rfl), ⟨(show zSim l P zML (zMu q_L_law) 1398 (2, 1399, 0, 2, (Int.ofNat 0), []) from zs_aload_n dL_law_1398 rfl), ⟨(show zSim l P zML (zMu q_L_law) 1399 (2, 1400, 3, 0, (Int.ofNat 0), []) from zs_iload_n dL_law_1399 rfl), ⟨(show zSim l P zML (zMu q_L_law) 1400 (0, 1401, 0, 0, (Int.ofNat 1), []) from zs_iconst (Int32.ofNat 1) dL_law_1400 (by decide +kernel) (by decide +kernel)), ⟨(show zSim l P zML (zMu q_L_law) 1401 (7, 1402, 0, 0, (Int.ofNat 0), []) from zs_iadd dL_law_1401), ⟨(show zSim l P zML (zMu q_L_law) 1402 (22, 1403, 0, 0, (Int.ofNat 0), []) from zs_iald dL_law_1402), ⟨(show zSim l P zML (zMu q_L_law) 1403 (2, 1404, 0, 2, (Int.ofNat 0), []) from zs_aload_n dL_law_1403 rfl), ⟨(show zSim l P zML (zMu q_L_law) 1404 (2, 1405, 3, 0, (Int.ofNat 0), []) from zs_iload_n dL_law_1404 rfl), ⟨(show zSim l P zML (zMu q_L_law) 1405 (0, 1406, 0, 0, (Int.ofNat 2), []) from zs_iconst (Int32.ofNat 2) dL_law_1405 (by decide +kernel) (by decide +kernel)), ⟨(show zSim l P zML (zMu q_L_law) 1406 (7, 1407, 0, 0, (Int.ofNat 0), []) from zs_iadd dL_law_1406), ⟨(show zSim l P zML (zMu q_L_law) 1407 (22, 1408, 0, 0, (Int.ofNat 0), []) from zs_iald dL_law_1407), trivial⟩⟩⟩⟩⟩⟩⟩⟩⟩⟩⟩⟩⟩⟩
theorem o_zk_L_law_88 {l : Launch} {P : zP} : zAll l P zML (zMu q_L_law) 1408 zk_L_law_88 := ⟨(show zSim l P zML (zMu q_L_law) 1408 (2, 1409, 0, 2, (Int.ofNat 0), []) from zs_aload_n dL_law_1408 rfl), ⟨(show zSim l P zML (zMu q_L_law) 1409 (2, 1410, 3, 0, (Int.ofNat 0), []) from zs_iload_n dL_law_1409 rfl), ⟨(show zSim l P zML (zMu q_L_law) 1410 (0, 1411, 0, 0, (Int.ofNat 3), []) from zs_iconst (Int32.ofNat 3) dL_law_1410 (by decide +kernel) (by decide +kernel)), ⟨(show zSim l P zML (zMu q_L_law) 1411 (7, 1412, 0, 0, (Int.ofNat 0), []) from zs_iadd dL_law_1411), ⟨(show zSim l P zML (zMu q_L_law) 1412 (22, 1413, 0, 0, (Int.ofNat 0), []) from zs_iald dL_law_1412), ⟨(show zSim l P zML (zMu q_L_law) 1413 (29, 1416, 337, 4, (Int.ofNat 12), [((Int.ofNat 0), 4)]) from zs_callV 12 q_X12_worth m_X12_worth (Nat.le_of_ble_eq_true rfl) dL_law_1413 rfl (xvc_12) w_1591 w_1592 w_1593 w_1590 w_853 h_X12_worth), ⟨(show zSim l P zML (zMu q_L_law) 1416 (15, 1417, 0, 0, (Int.ofNat 0), []) from zs_pop dL_law_1416), ⟨(show zSim l P zML (zMu q_L_law) 1417 (1, 1750, 0, 0, (Int.ofNat 0), []) from zs_goto 1750 dL_law_1417 (by decide +kernel)), ⟨(show zSim l P zML (zMu q_L_law) 1420 (2, 1421, 1, 2, (Int.ofNat 0), []) from zs_aload_n dL_law_1420 rfl), ⟨(show zSim l P zML (zMu q_L_law) 1421 (2, 1422, 0, 2, (Int.ofNat 0), []) from zs_aload_n dL_law_1421 rfl), ⟨(show zSim l P zML (zMu q_L_law) 1422 (2, 1423, 3, 0, (Int.ofNat 0), []) from zs_iload_n dL_law_1422 rfl), ⟨(show zSim l P zML (zMu q_L_law) 1423 (0, 1424, 0, 0, (Int.ofNat 1), []) from zs_iconst (Int32.ofNat 1) dL_law_1423 (by decide +kernel) (by decide +kernel)), trivial⟩⟩⟩⟩⟩⟩⟩⟩⟩⟩⟩⟩
theorem o_zk_L_law_89 {l : Launch} {P : zP} : zAll l P zML (zMu q_L_law) 1424 zk_L_law_89 := ⟨(show zSim l P zML (zMu q_L_law) 1424 (7, 1425, 0, 0, (Int.ofNat 0), []) from zs_iadd dL_law_1424), ⟨(show zSim l P zML (zMu q_L_law) 1425 (22, 1426, 0, 0, (Int.ofNat 0), []) from zs_iald dL_law_1425), ⟨(show zSim l P zML (zMu q_L_law) 1426 (2, 1427, 0, 2, (Int.ofNat 0), []) from zs_aload_n dL_law_1426 rfl), ⟨(show zSim l P zML (zMu q_L_law) 1427 (2, 1428, 3, 0, (Int.ofNat 0), []) from zs_iload_n dL_law_1427 rfl), ⟨(show zSim l P zML (zMu q_L_law) 1428 (0, 1429, 0, 0, (Int.ofNat 2), []) from zs_iconst (Int32.ofNat 2) dL_law_1428 (by decide +kernel) (by decide +kernel)), ⟨(show zSim l P zML (zMu q_L_law) 1429 (7, 1430, 0, 0, (Int.ofNat 0), []) from zs_iadd dL_law_1429), ⟨(show zSim l P zML (zMu q_L_law) 1430 (22, 1431, 0, 0, (Int.ofNat 0), []) from zs_iald dL_law_1430), ⟨(show zSim l P zML (zMu q_L_law) 1431 (29, 1434, 167, 3, (Int.ofNat 11), [((Int.ofNat 0), 4)]) from zs_callV 11 q_X11_mostWorth m_X11_mostWorth (Nat.le_of_ble_eq_true rfl) dL_law_1431 rfl (xvc_11) w_1595 w_1596 w_1597 w_1594 w_625 h_X11_mostWorth), ⟨(show zSim l P zML (zMu q_L_law) 1434 (15, 1435, 0, 0, (Int.ofNat 0), []) from zs_pop dL_law_1434), ⟨(show zSim l P zML (zMu q_L_law) 1435 (2, 1436, 2, 2, (Int.ofNat 0), []) from zs_aload_n dL_law_1435 rfl), ⟨(show zSim l P zML (zMu q_L_law) 1436 (2, 1437, 0, 2, (Int.ofNat 0), []) from zs_aload_n dL_law_1436 rfl), ⟨(show zSim l P zML (zMu q_L_law) 1437 (2, 1438, 3, 0, (Int.ofNat 0), []) from zs_iload_n dL_law_1437 rfl), ⟨(show zSim l P zML (zMu q_L_law) 1438 (0, 1439, 0, 0, (Int.ofNat 1), []) from zs_iconst (Int32.ofNat 1) dL_law_1438 (by decide +kernel) (by decide +kernel)), ⟨(show zSim l P zML (zMu q_L_law) 1439 (7, 1440, 0, 0, (Int.ofNat 0), []) from zs_iadd dL_law_1439), trivial⟩⟩⟩⟩⟩⟩⟩⟩⟩⟩⟩⟩⟩⟩
theorem o_zk_L_law_90 {l : Launch} {P : zP} : zAll l P zML (zMu q_L_law) 1440 zk_L_law_90 := ⟨(show zSim l P zML (zMu q_L_law) 1440 (22, 1441, 0, 0, (Int.ofNat 0), []) from zs_iald dL_law_1440), ⟨(show zSim l P zML (zMu q_L_law) 1441 (2, 1442, 0, 2, (Int.ofNat 0), []) from zs_aload_n dL_law_1441 rfl), ⟨(show zSim l P zML (zMu q_L_law) 1442 (2, 1443, 3, 0, (Int.ofNat 0), []) from zs_iload_n dL_law_1442 rfl), ⟨(show zSim l P zML (zMu q_L_law) 1443 (0, 1444, 0, 0, (Int.ofNat 2), []) from zs_iconst (Int32.ofNat 2) dL_law_1443 (by decide +kernel) (by decide +kernel)), ⟨(show zSim l P zML (zMu q_L_law) 1444 (7, 1445, 0, 0, (Int.ofNat 0), []) from zs_iadd dL_law_1444), ⟨(show zSim l P zML (zMu q_L_law) 1445 (22, 1446, 0, 0, (Int.ofNat 0), []) from zs_iald dL_law_1445), ⟨(show zSim l P zML (zMu q_L_law) 1446 (29, 1449, 278, 3, (Int.ofNat 12), [((Int.ofNat 0), 6)]) from zs_callV 12 q_X12_mostWorth m_X12_mostWorth (Nat.le_of_ble_eq_true rfl) dL_law_1446 rfl (xvc_12) w_1599 w_1600 w_1601 w_1598 w_853 h_X12_mostWorth), ⟨(show zSim l P zML (zMu q_L_law) 1449 (15, 1450, 0, 0, (Int.ofNat 0), []) from zs_pop dL_law_1449), ⟨(show zSim l P zML (zMu q_L_law) 1450 (1, 1750, 0, 0, (Int.ofNat 0), []) from zs_goto 1750 dL_law_1450 (by decide +kernel)), ⟨(show zSim l P zML (zMu q_L_law) 1453 (2, 1454, 1, 2, (Int.ofNat 0), []) from zs_aload_n dL_law_1453 rfl), ⟨(show zSim l P zML (zMu q_L_law) 1454 (2, 1455, 0, 2, (Int.ofNat 0), []) from zs_aload_n dL_law_1454 rfl), ⟨(show zSim l P zML (zMu q_L_law) 1455 (2, 1456, 3, 0, (Int.ofNat 0), []) from zs_iload_n dL_law_1455 rfl), trivial⟩⟩⟩⟩⟩⟩⟩⟩⟩⟩⟩⟩
theorem o_zk_L_law_91 {l : Launch} {P : zP} : zAll l P zML (zMu q_L_law) 1456 zk_L_law_91 := ⟨(show zSim l P zML (zMu q_L_law) 1456 (0, 1457, 0, 0, (Int.ofNat 1), []) from zs_iconst (Int32.ofNat 1) dL_law_1456 (by decide +kernel) (by decide +kernel)), ⟨(show zSim l P zML (zMu q_L_law) 1457 (7, 1458, 0, 0, (Int.ofNat 0), []) from zs_iadd dL_law_1457), ⟨(show zSim l P zML (zMu q_L_law) 1458 (22, 1459, 0, 0, (Int.ofNat 0), []) from zs_iald dL_law_1458), ⟨(show zSim l P zML (zMu q_L_law) 1459 (2, 1460, 0, 2, (Int.ofNat 0), []) from zs_aload_n dL_law_1459 rfl), ⟨(show zSim l P zML (zMu q_L_law) 1460 (2, 1461, 3, 0, (Int.ofNat 0), []) from zs_iload_n dL_law_1460 rfl), ⟨(show zSim l P zML (zMu q_L_law) 1461 (0, 1462, 0, 0, (Int.ofNat 2), []) from zs_iconst (Int32.ofNat 2) dL_law_1461 (by decide +kernel) (by decide +kernel)), ⟨(show zSim l P zML (zMu q_L_law) 1462 (7, 1463, 0, 0, (Int.ofNat 0), []) from zs_iadd dL_law_1462), ⟨(show zSim l P zML (zMu q_L_law) 1463 (22, 1464, 0, 0, (Int.ofNat 0), []) from zs_iald dL_law_1463), ⟨(show zSim l P zML (zMu q_L_law) 1464 (29, 1467, 186, 3, (Int.ofNat 11), [((Int.ofNat 0), 7)]) from zs_callV 11 q_X11_told m_X11_told (Nat.le_of_ble_eq_true rfl) dL_law_1464 rfl (xvc_11) w_1603 w_1604 w_1605 w_1602 w_625 h_X11_told), ⟨(show zSim l P zML (zMu q_L_law) 1467 (15, 1468, 0, 1, (Int.ofNat 0), []) from zs_pop2 dL_law_1467), ⟨(show zSim l P zML (zMu q_L_law) 1468 (2, 1469, 2, 2, (Int.ofNat 0), []) from zs_aload_n dL_law_1468 rfl), ⟨(show zSim l P zML (zMu q_L_law) 1469 (2, 1470, 0, 2, (Int.ofNat 0), []) from zs_aload_n dL_law_1469 rfl), ⟨(show zSim l P zML (zMu q_L_law) 1470 (2, 1471, 3, 0, (Int.ofNat 0), []) from zs_iload_n dL_law_1470 rfl), ⟨(show zSim l P zML (zMu q_L_law) 1471 (0, 1472, 0, 0, (Int.ofNat 1), []) from zs_iconst (Int32.ofNat 1) dL_law_1471 (by decide +kernel) (by decide +kernel)), trivial⟩⟩⟩⟩⟩⟩⟩⟩⟩⟩⟩⟩⟩⟩
theorem o_zk_L_law_92 {l : Launch} {P : zP} : zAll l P zML (zMu q_L_law) 1472 zk_L_law_92 := ⟨(show zSim l P zML (zMu q_L_law) 1472 (7, 1473, 0, 0, (Int.ofNat 0), []) from zs_iadd dL_law_1472), ⟨(show zSim l P zML (zMu q_L_law) 1473 (22, 1474, 0, 0, (Int.ofNat 0), []) from zs_iald dL_law_1473), ⟨(show zSim l P zML (zMu q_L_law) 1474 (2, 1475, 0, 2, (Int.ofNat 0), []) from zs_aload_n dL_law_1474 rfl), ⟨(show zSim l P zML (zMu q_L_law) 1475 (2, 1476, 3, 0, (Int.ofNat 0), []) from zs_iload_n dL_law_1475 rfl), ⟨(show zSim l P zML (zMu q_L_law) 1476 (0, 1477, 0, 0, (Int.ofNat 2), []) from zs_iconst (Int32.ofNat 2) dL_law_1476 (by decide +kernel) (by decide +kernel)), ⟨(show zSim l P zML (zMu q_L_law) 1477 (7, 1478, 0, 0, (Int.ofNat 0), []) from zs_iadd dL_law_1477), ⟨(show zSim l P zML (zMu q_L_law) 1478 (22, 1479, 0, 0, (Int.ofNat 0), []) from zs_iald dL_law_1478), ⟨(show zSim l P zML (zMu q_L_law) 1479 (29, 1482, 327, 3, (Int.ofNat 12), [((Int.ofNat 0), 8)]) from zs_callV 12 q_X12_told m_X12_told (Nat.le_of_ble_eq_true rfl) dL_law_1479 rfl (xvc_12) w_1607 w_1608 w_1609 w_1606 w_853 h_X12_told), ⟨(show zSim l P zML (zMu q_L_law) 1482 (15, 1483, 0, 1, (Int.ofNat 0), []) from zs_pop2 dL_law_1482), ⟨(show zSim l P zML (zMu q_L_law) 1483 (1, 1750, 0, 0, (Int.ofNat 0), []) from zs_goto 1750 dL_law_1483 (by decide +kernel)), ⟨(show zSim l P zML (zMu q_L_law) 1486 (2, 1487, 1, 2, (Int.ofNat 0), []) from zs_aload_n dL_law_1486 rfl), ⟨(show zSim l P zML (zMu q_L_law) 1487 (2, 1488, 0, 2, (Int.ofNat 0), []) from zs_aload_n dL_law_1487 rfl), trivial⟩⟩⟩⟩⟩⟩⟩⟩⟩⟩⟩⟩
theorem o_zk_L_law_93 {l : Launch} {P : zP} : zAll l P zML (zMu q_L_law) 1488 zk_L_law_93 := ⟨(show zSim l P zML (zMu q_L_law) 1488 (2, 1489, 3, 0, (Int.ofNat 0), []) from zs_iload_n dL_law_1488 rfl), ⟨(show zSim l P zML (zMu q_L_law) 1489 (0, 1490, 0, 0, (Int.ofNat 1), []) from zs_iconst (Int32.ofNat 1) dL_law_1489 (by decide +kernel) (by decide +kernel)), ⟨(show zSim l P zML (zMu q_L_law) 1490 (7, 1491, 0, 0, (Int.ofNat 0), []) from zs_iadd dL_law_1490), ⟨(show zSim l P zML (zMu q_L_law) 1491 (22, 1492, 0, 0, (Int.ofNat 0), []) from zs_iald dL_law_1491), ⟨(show zSim l P zML (zMu q_L_law) 1492 (2, 1493, 0, 2, (Int.ofNat 0), []) from zs_aload_n dL_law_1492 rfl), ⟨(show zSim l P zML (zMu q_L_law) 1493 (2, 1494, 3, 0, (Int.ofNat 0), []) from zs_iload_n dL_law_1493 rfl), ⟨(show zSim l P zML (zMu q_L_law) 1494 (0, 1495, 0, 0, (Int.ofNat 2), []) from zs_iconst (Int32.ofNat 2) dL_law_1494 (by decide +kernel) (by decide +kernel)), ⟨(show zSim l P zML (zMu q_L_law) 1495 (7, 1496, 0, 0, (Int.ofNat 0), []) from zs_iadd dL_law_1495), ⟨(show zSim l P zML (zMu q_L_law) 1496 (22, 1497, 0, 0, (Int.ofNat 0), []) from zs_iald dL_law_1496), ⟨(show zSim l P zML (zMu q_L_law) 1497 (2, 1498, 0, 2, (Int.ofNat 0), []) from zs_aload_n dL_law_1497 rfl), ⟨(show zSim l P zML (zMu q_L_law) 1498 (2, 1499, 3, 0, (Int.ofNat 0), []) from zs_iload_n dL_law_1498 rfl), ⟨(show zSim l P zML (zMu q_L_law) 1499 (0, 1500, 0, 0, (Int.ofNat 3), []) from zs_iconst (Int32.ofNat 3) dL_law_1499 (by decide +kernel) (by decide +kernel)), ⟨(show zSim l P zML (zMu q_L_law) 1500 (7, 1501, 0, 0, (Int.ofNat 0), []) from zs_iadd dL_law_1500), ⟨(show zSim l P zML (zMu q_L_law) 1501 (22, 1502, 0, 0, (Int.ofNat 0), []) from zs_iald dL_law_1501), ⟨(show zSim l P zML (zMu q_L_law) 1502 (29, 1505, 157, 4, (Int.ofNat 11), [((Int.ofNat 0), 8)]) from zs_callV 11 q_X11_halves m_X11_halves (Nat.le_of_ble_eq_true rfl) dL_law_1502 rfl (xvc_11) w_1611 w_1612 w_1613 w_1610 w_625 h_X11_halves), trivial⟩⟩⟩⟩⟩⟩⟩⟩⟩⟩⟩⟩⟩⟩⟩
theorem o_zk_L_law_94 {l : Launch} {P : zP} : zAll l P zML (zMu q_L_law) 1504 zk_L_law_94 := ⟨(show zSim l P zML (zMu q_L_law) 1505 (15, 1506, 0, 0, (Int.ofNat 0), []) from zs_pop dL_law_1505), ⟨(show zSim l P zML (zMu q_L_law) 1506 (2, 1507, 2, 2, (Int.ofNat 0), []) from zs_aload_n dL_law_1506 rfl), ⟨(show zSim l P zML (zMu q_L_law) 1507 (2, 1508, 0, 2, (Int.ofNat 0), []) from zs_aload_n dL_law_1507 rfl), ⟨(show zSim l P zML (zMu q_L_law) 1508 (2, 1509, 3, 0, (Int.ofNat 0), []) from zs_iload_n dL_law_1508 rfl), ⟨(show zSim l P zML (zMu q_L_law) 1509 (0, 1510, 0, 0, (Int.ofNat 1), []) from zs_iconst (Int32.ofNat 1) dL_law_1509 (by decide +kernel) (by decide +kernel)), ⟨(show zSim l P zML (zMu q_L_law) 1510 (7, 1511, 0, 0, (Int.ofNat 0), []) from zs_iadd dL_law_1510), ⟨(show zSim l P zML (zMu q_L_law) 1511 (22, 1512, 0, 0, (Int.ofNat 0), []) from zs_iald dL_law_1511), ⟨(show zSim l P zML (zMu q_L_law) 1512 (2, 1513, 0, 2, (Int.ofNat 0), []) from zs_aload_n dL_law_1512 rfl), ⟨(show zSim l P zML (zMu q_L_law) 1513 (2, 1514, 3, 0, (Int.ofNat 0), []) from zs_iload_n dL_law_1513 rfl), ⟨(show zSim l P zML (zMu q_L_law) 1514 (0, 1515, 0, 0, (Int.ofNat 2), []) from zs_iconst (Int32.ofNat 2) dL_law_1514 (by decide +kernel) (by decide +kernel)), ⟨(show zSim l P zML (zMu q_L_law) 1515 (7, 1516, 0, 0, (Int.ofNat 0), []) from zs_iadd dL_law_1515), ⟨(show zSim l P zML (zMu q_L_law) 1516 (22, 1517, 0, 0, (Int.ofNat 0), []) from zs_iald dL_law_1516), ⟨(show zSim l P zML (zMu q_L_law) 1517 (2, 1518, 0, 2, (Int.ofNat 0), []) from zs_aload_n dL_law_1517 rfl), ⟨(show zSim l P zML (zMu q_L_law) 1518 (2, 1519, 3, 0, (Int.ofNat 0), []) from zs_iload_n dL_law_1518 rfl), ⟨(show zSim l P zML (zMu q_L_law) 1519 (0, 1520, 0, 0, (Int.ofNat 3), []) from zs_iconst (Int32.ofNat 3) dL_law_1519 (by decide +kernel) (by decide +kernel)), trivial⟩⟩⟩⟩⟩⟩⟩⟩⟩⟩⟩⟩⟩⟩⟩
theorem o_zk_L_law_95 {l : Launch} {P : zP} : zAll l P zML (zMu q_L_law) 1520 zk_L_law_95 := ⟨(show zSim l P zML (zMu q_L_law) 1520 (7, 1521, 0, 0, (Int.ofNat 0), []) from zs_iadd dL_law_1520), ⟨(show zSim l P zML (zMu q_L_law) 1521 (22, 1522, 0, 0, (Int.ofNat 0), []) from zs_iald dL_law_1521), ⟨(show zSim l P zML (zMu q_L_law) 1522 (29, 1525, 235, 4, (Int.ofNat 12), [((Int.ofNat 0), 6)]) from zs_callV 12 q_X12_halves m_X12_halves (Nat.le_of_ble_eq_true rfl) dL_law_1522 rfl (xvc_12) w_1615 w_1616 w_1617 w_1614 w_853 h_X12_halves), ⟨(show zSim l P zML (zMu q_L_law) 1525 (15, 1526, 0, 0, (Int.ofNat 0), []) from zs_pop dL_law_1525), ⟨(show zSim l P zML (zMu q_L_law) 1526 (1, 1750, 0, 0, (Int.ofNat 0), []) from zs_goto 1750 dL_law_1526 (by decide +kernel)), ⟨(show zSim l P zML (zMu q_L_law) 1529 (2, 1530, 1, 2, (Int.ofNat 0), []) from zs_aload_n dL_law_1529 rfl), ⟨(show zSim l P zML (zMu q_L_law) 1530 (2, 1531, 0, 2, (Int.ofNat 0), []) from zs_aload_n dL_law_1530 rfl), ⟨(show zSim l P zML (zMu q_L_law) 1531 (2, 1532, 3, 0, (Int.ofNat 0), []) from zs_iload_n dL_law_1531 rfl), ⟨(show zSim l P zML (zMu q_L_law) 1532 (0, 1533, 0, 0, (Int.ofNat 1), []) from zs_iconst (Int32.ofNat 1) dL_law_1532 (by decide +kernel) (by decide +kernel)), ⟨(show zSim l P zML (zMu q_L_law) 1533 (7, 1534, 0, 0, (Int.ofNat 0), []) from zs_iadd dL_law_1533), ⟨(show zSim l P zML (zMu q_L_law) 1534 (22, 1535, 0, 0, (Int.ofNat 0), []) from zs_iald dL_law_1534), ⟨(show zSim l P zML (zMu q_L_law) 1535 (2, 1536, 0, 2, (Int.ofNat 0), []) from zs_aload_n dL_law_1535 rfl), trivial⟩⟩⟩⟩⟩⟩⟩⟩⟩⟩⟩⟩
theorem o_zk_L_law_96 {l : Launch} {P : zP} : zAll l P zML (zMu q_L_law) 1536 zk_L_law_96 := ⟨(show zSim l P zML (zMu q_L_law) 1536 (2, 1537, 3, 0, (Int.ofNat 0), []) from zs_iload_n dL_law_1536 rfl), ⟨(show zSim l P zML (zMu q_L_law) 1537 (0, 1538, 0, 0, (Int.ofNat 2), []) from zs_iconst (Int32.ofNat 2) dL_law_1537 (by decide +kernel) (by decide +kernel)), ⟨(show zSim l P zML (zMu q_L_law) 1538 (7, 1539, 0, 0, (Int.ofNat 0), []) from zs_iadd dL_law_1538), ⟨(show zSim l P zML (zMu q_L_law) 1539 (22, 1540, 0, 0, (Int.ofNat 0), []) from zs_iald dL_law_1539), ⟨(show zSim l P zML (zMu q_L_law) 1540 (2, 1541, 0, 2, (Int.ofNat 0), []) from zs_aload_n dL_law_1540 rfl), ⟨(show zSim l P zML (zMu q_L_law) 1541 (2, 1542, 3, 0, (Int.ofNat 0), []) from zs_iload_n dL_law_1541 rfl), ⟨(show zSim l P zML (zMu q_L_law) 1542 (0, 1543, 0, 0, (Int.ofNat 3), []) from zs_iconst (Int32.ofNat 3) dL_law_1542 (by decide +kernel) (by decide +kernel)), ⟨(show zSim l P zML (zMu q_L_law) 1543 (7, 1544, 0, 0, (Int.ofNat 0), []) from zs_iadd dL_law_1543), ⟨(show zSim l P zML (zMu q_L_law) 1544 (22, 1545, 0, 0, (Int.ofNat 0), []) from zs_iald dL_law_1544), ⟨(show zSim l P zML (zMu q_L_law) 1545 (2, 1546, 0, 2, (Int.ofNat 0), []) from zs_aload_n dL_law_1545 rfl), ⟨(show zSim l P zML (zMu q_L_law) 1546 (2, 1547, 3, 0, (Int.ofNat 0), []) from zs_iload_n dL_law_1546 rfl), ⟨(show zSim l P zML (zMu q_L_law) 1547 (0, 1548, 0, 0, (Int.ofNat 4), []) from zs_iconst (Int32.ofNat 4) dL_law_1547 (by decide +kernel) (by decide +kernel)), ⟨(show zSim l P zML (zMu q_L_law) 1548 (7, 1549, 0, 0, (Int.ofNat 0), []) from zs_iadd dL_law_1548), ⟨(show zSim l P zML (zMu q_L_law) 1549 (22, 1550, 0, 0, (Int.ofNat 0), []) from zs_iald dL_law_1549), ⟨(show zSim l P zML (zMu q_L_law) 1550 (2, 1551, 0, 2, (Int.ofNat 0), []) from zs_aload_n dL_law_1550 rfl), ⟨(show zSim l P zML (zMu q_L_law) 1551 (2, 1552, 3, 0, (Int.ofNat 0), []) from zs_iload_n dL_law_1551 rfl), trivial⟩⟩⟩⟩⟩⟩⟩⟩⟩⟩⟩⟩⟩⟩⟩⟩
theorem o_zk_L_law_97 {l : Launch} {P : zP} : zAll l P zML (zMu q_L_law) 1552 zk_L_law_97 := ⟨(show zSim l P zML (zMu q_L_law) 1552 (0, 1553, 0, 0, (Int.ofNat 5), []) from zs_iconst (Int32.ofNat 5) dL_law_1552 (by decide +kernel) (by decide +kernel)), ⟨(show zSim l P zML (zMu q_L_law) 1553 (7, 1554, 0, 0, (Int.ofNat 0), []) from zs_iadd dL_law_1553), ⟨(show zSim l P zML (zMu q_L_law) 1554 (22, 1555, 0, 0, (Int.ofNat 0), []) from zs_iald dL_law_1554), ⟨(show zSim l P zML (zMu q_L_law) 1555 (29, 1558, 169, 6, (Int.ofNat 11), [((Int.ofNat 0), 8)]) from zs_callV 11 q_X11_odds m_X11_odds (Nat.le_of_ble_eq_true rfl) dL_law_1555 rfl (xvc_11) w_1619 w_1620 w_1621 w_1618 w_625 h_X11_odds), ⟨(show zSim l P zML (zMu q_L_law) 1558 (15, 1559, 0, 0, (Int.ofNat 0), []) from zs_pop dL_law_1558), ⟨(show zSim l P zML (zMu q_L_law) 1559 (2, 1560, 2, 2, (Int.ofNat 0), []) from zs_aload_n dL_law_1559 rfl), ⟨(show zSim l P zML (zMu q_L_law) 1560 (2, 1561, 0, 2, (Int.ofNat 0), []) from zs_aload_n dL_law_1560 rfl), ⟨(show zSim l P zML (zMu q_L_law) 1561 (2, 1562, 3, 0, (Int.ofNat 0), []) from zs_iload_n dL_law_1561 rfl), ⟨(show zSim l P zML (zMu q_L_law) 1562 (0, 1563, 0, 0, (Int.ofNat 1), []) from zs_iconst (Int32.ofNat 1) dL_law_1562 (by decide +kernel) (by decide +kernel)), ⟨(show zSim l P zML (zMu q_L_law) 1563 (7, 1564, 0, 0, (Int.ofNat 0), []) from zs_iadd dL_law_1563), ⟨(show zSim l P zML (zMu q_L_law) 1564 (22, 1565, 0, 0, (Int.ofNat 0), []) from zs_iald dL_law_1564), ⟨(show zSim l P zML (zMu q_L_law) 1565 (2, 1566, 0, 2, (Int.ofNat 0), []) from zs_aload_n dL_law_1565 rfl), ⟨(show zSim l P zML (zMu q_L_law) 1566 (2, 1567, 3, 0, (Int.ofNat 0), []) from zs_iload_n dL_law_1566 rfl), ⟨(show zSim l P zML (zMu q_L_law) 1567 (0, 1568, 0, 0, (Int.ofNat 2), []) from zs_iconst (Int32.ofNat 2) dL_law_1567 (by decide +kernel) (by decide +kernel)), trivial⟩⟩⟩⟩⟩⟩⟩⟩⟩⟩⟩⟩⟩⟩
theorem o_zk_L_law_98 {l : Launch} {P : zP} : zAll l P zML (zMu q_L_law) 1568 zk_L_law_98 := ⟨(show zSim l P zML (zMu q_L_law) 1568 (7, 1569, 0, 0, (Int.ofNat 0), []) from zs_iadd dL_law_1568), ⟨(show zSim l P zML (zMu q_L_law) 1569 (22, 1570, 0, 0, (Int.ofNat 0), []) from zs_iald dL_law_1569), ⟨(show zSim l P zML (zMu q_L_law) 1570 (2, 1571, 0, 2, (Int.ofNat 0), []) from zs_aload_n dL_law_1570 rfl), ⟨(show zSim l P zML (zMu q_L_law) 1571 (2, 1572, 3, 0, (Int.ofNat 0), []) from zs_iload_n dL_law_1571 rfl), ⟨(show zSim l P zML (zMu q_L_law) 1572 (0, 1573, 0, 0, (Int.ofNat 3), []) from zs_iconst (Int32.ofNat 3) dL_law_1572 (by decide +kernel) (by decide +kernel)), ⟨(show zSim l P zML (zMu q_L_law) 1573 (7, 1574, 0, 0, (Int.ofNat 0), []) from zs_iadd dL_law_1573), ⟨(show zSim l P zML (zMu q_L_law) 1574 (22, 1575, 0, 0, (Int.ofNat 0), []) from zs_iald dL_law_1574), ⟨(show zSim l P zML (zMu q_L_law) 1575 (2, 1576, 0, 2, (Int.ofNat 0), []) from zs_aload_n dL_law_1575 rfl), ⟨(show zSim l P zML (zMu q_L_law) 1576 (2, 1577, 3, 0, (Int.ofNat 0), []) from zs_iload_n dL_law_1576 rfl), ⟨(show zSim l P zML (zMu q_L_law) 1577 (0, 1578, 0, 0, (Int.ofNat 4), []) from zs_iconst (Int32.ofNat 4) dL_law_1577 (by decide +kernel) (by decide +kernel)), ⟨(show zSim l P zML (zMu q_L_law) 1578 (7, 1579, 0, 0, (Int.ofNat 0), []) from zs_iadd dL_law_1578), ⟨(show zSim l P zML (zMu q_L_law) 1579 (22, 1580, 0, 0, (Int.ofNat 0), []) from zs_iald dL_law_1579), ⟨(show zSim l P zML (zMu q_L_law) 1580 (2, 1581, 0, 2, (Int.ofNat 0), []) from zs_aload_n dL_law_1580 rfl), ⟨(show zSim l P zML (zMu q_L_law) 1581 (2, 1582, 3, 0, (Int.ofNat 0), []) from zs_iload_n dL_law_1581 rfl), ⟨(show zSim l P zML (zMu q_L_law) 1582 (0, 1583, 0, 0, (Int.ofNat 5), []) from zs_iconst (Int32.ofNat 5) dL_law_1582 (by decide +kernel) (by decide +kernel)), ⟨(show zSim l P zML (zMu q_L_law) 1583 (7, 1584, 0, 0, (Int.ofNat 0), []) from zs_iadd dL_law_1583), trivial⟩⟩⟩⟩⟩⟩⟩⟩⟩⟩⟩⟩⟩⟩⟩⟩
theorem o_zk_L_law_99 {l : Launch} {P : zP} : zAll l P zML (zMu q_L_law) 1584 zk_L_law_99 := ⟨(show zSim l P zML (zMu q_L_law) 1584 (22, 1585, 0, 0, (Int.ofNat 0), []) from zs_iald dL_law_1584), ⟨(show zSim l P zML (zMu q_L_law) 1585 (29, 1588, 287, 6, (Int.ofNat 12), [((Int.ofNat 0), 6)]) from zs_callV 12 q_X12_odds m_X12_odds (Nat.le_of_ble_eq_true rfl) dL_law_1585 rfl (xvc_12) w_1623 w_1624 w_1625 w_1622 w_853 h_X12_odds), ⟨(show zSim l P zML (zMu q_L_law) 1588 (15, 1589, 0, 0, (Int.ofNat 0), []) from zs_pop dL_law_1588), ⟨(show zSim l P zML (zMu q_L_law) 1589 (1, 1750, 0, 0, (Int.ofNat 0), []) from zs_goto 1750 dL_law_1589 (by decide +kernel)), ⟨(show zSim l P zML (zMu q_L_law) 1592 (2, 1593, 1, 2, (Int.ofNat 0), []) from zs_aload_n dL_law_1592 rfl), ⟨(show zSim l P zML (zMu q_L_law) 1593 (2, 1594, 0, 2, (Int.ofNat 0), []) from zs_aload_n dL_law_1593 rfl), ⟨(show zSim l P zML (zMu q_L_law) 1594 (2, 1595, 3, 0, (Int.ofNat 0), []) from zs_iload_n dL_law_1594 rfl), ⟨(show zSim l P zML (zMu q_L_law) 1595 (0, 1596, 0, 0, (Int.ofNat 1), []) from zs_iconst (Int32.ofNat 1) dL_law_1595 (by decide +kernel) (by decide +kernel)), ⟨(show zSim l P zML (zMu q_L_law) 1596 (7, 1597, 0, 0, (Int.ofNat 0), []) from zs_iadd dL_law_1596), ⟨(show zSim l P zML (zMu q_L_law) 1597 (22, 1598, 0, 0, (Int.ofNat 0), []) from zs_iald dL_law_1597), ⟨(show zSim l P zML (zMu q_L_law) 1598 (2, 1599, 0, 2, (Int.ofNat 0), []) from zs_aload_n dL_law_1598 rfl), ⟨(show zSim l P zML (zMu q_L_law) 1599 (2, 1600, 3, 0, (Int.ofNat 0), []) from zs_iload_n dL_law_1599 rfl), trivial⟩⟩⟩⟩⟩⟩⟩⟩⟩⟩⟩⟩
theorem o_zk_L_law_100 {l : Launch} {P : zP} : zAll l P zML (zMu q_L_law) 1600 zk_L_law_100 := ⟨(show zSim l P zML (zMu q_L_law) 1600 (0, 1601, 0, 0, (Int.ofNat 2), []) from zs_iconst (Int32.ofNat 2) dL_law_1600 (by decide +kernel) (by decide +kernel)), ⟨(show zSim l P zML (zMu q_L_law) 1601 (7, 1602, 0, 0, (Int.ofNat 0), []) from zs_iadd dL_law_1601), ⟨(show zSim l P zML (zMu q_L_law) 1602 (22, 1603, 0, 0, (Int.ofNat 0), []) from zs_iald dL_law_1602), ⟨(show zSim l P zML (zMu q_L_law) 1603 (2, 1604, 0, 2, (Int.ofNat 0), []) from zs_aload_n dL_law_1603 rfl), ⟨(show zSim l P zML (zMu q_L_law) 1604 (2, 1605, 3, 0, (Int.ofNat 0), []) from zs_iload_n dL_law_1604 rfl), ⟨(show zSim l P zML (zMu q_L_law) 1605 (0, 1606, 0, 0, (Int.ofNat 3), []) from zs_iconst (Int32.ofNat 3) dL_law_1605 (by decide +kernel) (by decide +kernel)), ⟨(show zSim l P zML (zMu q_L_law) 1606 (7, 1607, 0, 0, (Int.ofNat 0), []) from zs_iadd dL_law_1606), ⟨(show zSim l P zML (zMu q_L_law) 1607 (22, 1608, 0, 0, (Int.ofNat 0), []) from zs_iald dL_law_1607), ⟨(show zSim l P zML (zMu q_L_law) 1608 (29, 1611, 166, 4, (Int.ofNat 11), [((Int.ofNat 0), 4)]) from zs_callV 11 q_X11_mean m_X11_mean (Nat.le_of_ble_eq_true rfl) dL_law_1608 rfl (xvc_11) w_1627 w_1628 w_1629 w_1626 w_625 h_X11_mean), ⟨(show zSim l P zML (zMu q_L_law) 1611 (15, 1612, 0, 0, (Int.ofNat 0), []) from zs_pop dL_law_1611), ⟨(show zSim l P zML (zMu q_L_law) 1612 (2, 1613, 2, 2, (Int.ofNat 0), []) from zs_aload_n dL_law_1612 rfl), ⟨(show zSim l P zML (zMu q_L_law) 1613 (2, 1614, 0, 2, (Int.ofNat 0), []) from zs_aload_n dL_law_1613 rfl), ⟨(show zSim l P zML (zMu q_L_law) 1614 (2, 1615, 3, 0, (Int.ofNat 0), []) from zs_iload_n dL_law_1614 rfl), ⟨(show zSim l P zML (zMu q_L_law) 1615 (0, 1616, 0, 0, (Int.ofNat 1), []) from zs_iconst (Int32.ofNat 1) dL_law_1615 (by decide +kernel) (by decide +kernel)), trivial⟩⟩⟩⟩⟩⟩⟩⟩⟩⟩⟩⟩⟩⟩
theorem o_zk_L_law_101 {l : Launch} {P : zP} : zAll l P zML (zMu q_L_law) 1616 zk_L_law_101 := ⟨(show zSim l P zML (zMu q_L_law) 1616 (7, 1617, 0, 0, (Int.ofNat 0), []) from zs_iadd dL_law_1616), ⟨(show zSim l P zML (zMu q_L_law) 1617 (22, 1618, 0, 0, (Int.ofNat 0), []) from zs_iald dL_law_1617), ⟨(show zSim l P zML (zMu q_L_law) 1618 (2, 1619, 0, 2, (Int.ofNat 0), []) from zs_aload_n dL_law_1618 rfl), ⟨(show zSim l P zML (zMu q_L_law) 1619 (2, 1620, 3, 0, (Int.ofNat 0), []) from zs_iload_n dL_law_1619 rfl), ⟨(show zSim l P zML (zMu q_L_law) 1620 (0, 1621, 0, 0, (Int.ofNat 2), []) from zs_iconst (Int32.ofNat 2) dL_law_1620 (by decide +kernel) (by decide +kernel)), ⟨(show zSim l P zML (zMu q_L_law) 1621 (7, 1622, 0, 0, (Int.ofNat 0), []) from zs_iadd dL_law_1621), ⟨(show zSim l P zML (zMu q_L_law) 1622 (22, 1623, 0, 0, (Int.ofNat 0), []) from zs_iald dL_law_1622), ⟨(show zSim l P zML (zMu q_L_law) 1623 (2, 1624, 0, 2, (Int.ofNat 0), []) from zs_aload_n dL_law_1623 rfl), ⟨(show zSim l P zML (zMu q_L_law) 1624 (2, 1625, 3, 0, (Int.ofNat 0), []) from zs_iload_n dL_law_1624 rfl), ⟨(show zSim l P zML (zMu q_L_law) 1625 (0, 1626, 0, 0, (Int.ofNat 3), []) from zs_iconst (Int32.ofNat 3) dL_law_1625 (by decide +kernel) (by decide +kernel)), ⟨(show zSim l P zML (zMu q_L_law) 1626 (7, 1627, 0, 0, (Int.ofNat 0), []) from zs_iadd dL_law_1626), ⟨(show zSim l P zML (zMu q_L_law) 1627 (22, 1628, 0, 0, (Int.ofNat 0), []) from zs_iald dL_law_1627), ⟨(show zSim l P zML (zMu q_L_law) 1628 (29, 1631, 277, 4, (Int.ofNat 12), [((Int.ofNat 0), 7)]) from zs_callV 12 q_X12_mean m_X12_mean (Nat.le_of_ble_eq_true rfl) dL_law_1628 rfl (xvc_12) w_1631 w_1632 w_1633 w_1630 w_853 h_X12_mean), ⟨(show zSim l P zML (zMu q_L_law) 1631 (15, 1632, 0, 0, (Int.ofNat 0), []) from zs_pop dL_law_1631), trivial⟩⟩⟩⟩⟩⟩⟩⟩⟩⟩⟩⟩⟩⟩
theorem o_zk_L_law_102 {l : Launch} {P : zP} : zAll l P zML (zMu q_L_law) 1632 zk_L_law_102 := ⟨(show zSim l P zML (zMu q_L_law) 1632 (1, 1750, 0, 0, (Int.ofNat 0), []) from zs_goto 1750 dL_law_1632 (by decide +kernel)), ⟨(show zSim l P zML (zMu q_L_law) 1635 (2, 1636, 1, 2, (Int.ofNat 0), []) from zs_aload_n dL_law_1635 rfl), ⟨(show zSim l P zML (zMu q_L_law) 1636 (2, 1637, 0, 2, (Int.ofNat 0), []) from zs_aload_n dL_law_1636 rfl), ⟨(show zSim l P zML (zMu q_L_law) 1637 (2, 1638, 3, 0, (Int.ofNat 0), []) from zs_iload_n dL_law_1637 rfl), ⟨(show zSim l P zML (zMu q_L_law) 1638 (0, 1639, 0, 0, (Int.ofNat 1), []) from zs_iconst (Int32.ofNat 1) dL_law_1638 (by decide +kernel) (by decide +kernel)), ⟨(show zSim l P zML (zMu q_L_law) 1639 (7, 1640, 0, 0, (Int.ofNat 0), []) from zs_iadd dL_law_1639), ⟨(show zSim l P zML (zMu q_L_law) 1640 (22, 1641, 0, 0, (Int.ofNat 0), []) from zs_iald dL_law_1640), ⟨(show zSim l P zML (zMu q_L_law) 1641 (29, 1644, 178, 2, (Int.ofNat 11), [((Int.ofNat 0), 3)]) from zs_callV 11 q_X11_run m_X11_run (Nat.le_of_ble_eq_true rfl) dL_law_1641 rfl (xvc_11) w_1635 w_1636 w_1637 w_1634 w_625 h_X11_run), ⟨(show zSim l P zML (zMu q_L_law) 1644 (15, 1645, 0, 0, (Int.ofNat 0), []) from zs_pop dL_law_1644), ⟨(show zSim l P zML (zMu q_L_law) 1645 (2, 1646, 2, 2, (Int.ofNat 0), []) from zs_aload_n dL_law_1645 rfl), ⟨(show zSim l P zML (zMu q_L_law) 1646 (2, 1647, 0, 2, (Int.ofNat 0), []) from zs_aload_n dL_law_1646 rfl), ⟨(show zSim l P zML (zMu q_L_law) 1647 (2, 1648, 3, 0, (Int.ofNat 0), []) from zs_iload_n dL_law_1647 rfl), trivial⟩⟩⟩⟩⟩⟩⟩⟩⟩⟩⟩⟩
theorem o_zk_L_law_103 {l : Launch} {P : zP} : zAll l P zML (zMu q_L_law) 1648 zk_L_law_103 := ⟨(show zSim l P zML (zMu q_L_law) 1648 (0, 1649, 0, 0, (Int.ofNat 1), []) from zs_iconst (Int32.ofNat 1) dL_law_1648 (by decide +kernel) (by decide +kernel)), ⟨(show zSim l P zML (zMu q_L_law) 1649 (7, 1650, 0, 0, (Int.ofNat 0), []) from zs_iadd dL_law_1649), ⟨(show zSim l P zML (zMu q_L_law) 1650 (22, 1651, 0, 0, (Int.ofNat 0), []) from zs_iald dL_law_1650), ⟨(show zSim l P zML (zMu q_L_law) 1651 (29, 1654, 307, 2, (Int.ofNat 12), [((Int.ofNat 0), 2)]) from zs_callV 12 q_X12_run m_X12_run (Nat.le_of_ble_eq_true rfl) dL_law_1651 rfl (xvc_12) w_1639 w_1640 w_1641 w_1638 w_853 h_X12_run), ⟨(show zSim l P zML (zMu q_L_law) 1654 (15, 1655, 0, 0, (Int.ofNat 0), []) from zs_pop dL_law_1654), ⟨(show zSim l P zML (zMu q_L_law) 1655 (1, 1750, 0, 0, (Int.ofNat 0), []) from zs_goto 1750 dL_law_1655 (by decide +kernel)), ⟨(show zSim l P zML (zMu q_L_law) 1658 (2, 1659, 1, 2, (Int.ofNat 0), []) from zs_aload_n dL_law_1658 rfl), ⟨(show zSim l P zML (zMu q_L_law) 1659 (2, 1660, 0, 2, (Int.ofNat 0), []) from zs_aload_n dL_law_1659 rfl), ⟨(show zSim l P zML (zMu q_L_law) 1660 (2, 1661, 3, 0, (Int.ofNat 0), []) from zs_iload_n dL_law_1660 rfl), ⟨(show zSim l P zML (zMu q_L_law) 1661 (0, 1662, 0, 0, (Int.ofNat 1), []) from zs_iconst (Int32.ofNat 1) dL_law_1661 (by decide +kernel) (by decide +kernel)), ⟨(show zSim l P zML (zMu q_L_law) 1662 (7, 1663, 0, 0, (Int.ofNat 0), []) from zs_iadd dL_law_1662), ⟨(show zSim l P zML (zMu q_L_law) 1663 (22, 1664, 0, 0, (Int.ofNat 0), []) from zs_iald dL_law_1663), trivial⟩⟩⟩⟩⟩⟩⟩⟩⟩⟩⟩⟩
theorem o_zk_L_law_104 {l : Launch} {P : zP} : zAll l P zML (zMu q_L_law) 1664 zk_L_law_104 := ⟨(show zSim l P zML (zMu q_L_law) 1664 (29, 1667, 173, 2, (Int.ofNat 11), [((Int.ofNat 0), 2)]) from zs_callV 11 q_X11_ran m_X11_ran (Nat.le_of_ble_eq_true rfl) dL_law_1664 rfl (xvc_11) w_1643 w_1644 w_1645 w_1642 w_625 h_X11_ran), ⟨(show zSim l P zML (zMu q_L_law) 1667 (15, 1668, 0, 0, (Int.ofNat 0), []) from zs_pop dL_law_1667), ⟨(show zSim l P zML (zMu q_L_law) 1668 (2, 1669, 2, 2, (Int.ofNat 0), []) from zs_aload_n dL_law_1668 rfl), ⟨(show zSim l P zML (zMu q_L_law) 1669 (2, 1670, 0, 2, (Int.ofNat 0), []) from zs_aload_n dL_law_1669 rfl), ⟨(show zSim l P zML (zMu q_L_law) 1670 (2, 1671, 3, 0, (Int.ofNat 0), []) from zs_iload_n dL_law_1670 rfl), ⟨(show zSim l P zML (zMu q_L_law) 1671 (0, 1672, 0, 0, (Int.ofNat 1), []) from zs_iconst (Int32.ofNat 1) dL_law_1671 (by decide +kernel) (by decide +kernel)), ⟨(show zSim l P zML (zMu q_L_law) 1672 (7, 1673, 0, 0, (Int.ofNat 0), []) from zs_iadd dL_law_1672), ⟨(show zSim l P zML (zMu q_L_law) 1673 (22, 1674, 0, 0, (Int.ofNat 0), []) from zs_iald dL_law_1673), ⟨(show zSim l P zML (zMu q_L_law) 1674 (29, 1677, 292, 2, (Int.ofNat 12), [((Int.ofNat 0), 2)]) from zs_callV 12 q_X12_ran m_X12_ran (Nat.le_of_ble_eq_true rfl) dL_law_1674 rfl (xvc_12) w_1647 w_1648 w_1649 w_1646 w_853 h_X12_ran), ⟨(show zSim l P zML (zMu q_L_law) 1677 (15, 1678, 0, 0, (Int.ofNat 0), []) from zs_pop dL_law_1677), ⟨(show zSim l P zML (zMu q_L_law) 1678 (1, 1750, 0, 0, (Int.ofNat 0), []) from zs_goto 1750 dL_law_1678 (by decide +kernel)), trivial⟩⟩⟩⟩⟩⟩⟩⟩⟩⟩⟩
theorem o_zk_L_law_105 {l : Launch} {P : zP} : zAll l P zML (zMu q_L_law) 1680 zk_L_law_105 := ⟨(show zSim l P zML (zMu q_L_law) 1681 (2, 1682, 1, 2, (Int.ofNat 0), []) from zs_aload_n dL_law_1681 rfl), ⟨(show zSim l P zML (zMu q_L_law) 1682 (2, 1683, 0, 2, (Int.ofNat 0), []) from zs_aload_n dL_law_1682 rfl), ⟨(show zSim l P zML (zMu q_L_law) 1683 (2, 1684, 3, 0, (Int.ofNat 0), []) from zs_iload_n dL_law_1683 rfl), ⟨(show zSim l P zML (zMu q_L_law) 1684 (0, 1685, 0, 0, (Int.ofNat 1), []) from zs_iconst (Int32.ofNat 1) dL_law_1684 (by decide +kernel) (by decide +kernel)), ⟨(show zSim l P zML (zMu q_L_law) 1685 (7, 1686, 0, 0, (Int.ofNat 0), []) from zs_iadd dL_law_1685), ⟨(show zSim l P zML (zMu q_L_law) 1686 (22, 1687, 0, 0, (Int.ofNat 0), []) from zs_iald dL_law_1686), ⟨(show zSim l P zML (zMu q_L_law) 1687 (2, 1688, 0, 2, (Int.ofNat 0), []) from zs_aload_n dL_law_1687 rfl), ⟨(show zSim l P zML (zMu q_L_law) 1688 (2, 1689, 3, 0, (Int.ofNat 0), []) from zs_iload_n dL_law_1688 rfl), ⟨(show zSim l P zML (zMu q_L_law) 1689 (0, 1690, 0, 0, (Int.ofNat 2), []) from zs_iconst (Int32.ofNat 2) dL_law_1689 (by decide +kernel) (by decide +kernel)), ⟨(show zSim l P zML (zMu q_L_law) 1690 (7, 1691, 0, 0, (Int.ofNat 0), []) from zs_iadd dL_law_1690), ⟨(show zSim l P zML (zMu q_L_law) 1691 (22, 1692, 0, 0, (Int.ofNat 0), []) from zs_iald dL_law_1691), ⟨(show zSim l P zML (zMu q_L_law) 1692 (2, 1693, 0, 2, (Int.ofNat 0), []) from zs_aload_n dL_law_1692 rfl), ⟨(show zSim l P zML (zMu q_L_law) 1693 (2, 1694, 3, 0, (Int.ofNat 0), []) from zs_iload_n dL_law_1693 rfl), ⟨(show zSim l P zML (zMu q_L_law) 1694 (0, 1695, 0, 0, (Int.ofNat 3), []) from zs_iconst (Int32.ofNat 3) dL_law_1694 (by decide +kernel) (by decide +kernel)), ⟨(show zSim l P zML (zMu q_L_law) 1695 (7, 1696, 0, 0, (Int.ofNat 0), []) from zs_iadd dL_law_1695), trivial⟩⟩⟩⟩⟩⟩⟩⟩⟩⟩⟩⟩⟩⟩⟩
theorem o_zk_L_law_106 {l : Launch} {P : zP} : zAll l P zML (zMu q_L_law) 1696 zk_L_law_106 := ⟨(show zSim l P zML (zMu q_L_law) 1696 (22, 1697, 0, 0, (Int.ofNat 0), []) from zs_iald dL_law_1696), ⟨(show zSim l P zML (zMu q_L_law) 1697 (29, 1700, 143, 4, (Int.ofNat 11), [((Int.ofNat 0), 6)]) from zs_callV 11 q_X11_arrivals m_X11_arrivals (Nat.le_of_ble_eq_true rfl) dL_law_1697 rfl (xvc_11) w_1651 w_1652 w_1653 w_1650 w_625 h_X11_arrivals), ⟨(show zSim l P zML (zMu q_L_law) 1700 (15, 1701, 0, 0, (Int.ofNat 0), []) from zs_pop dL_law_1700), ⟨(show zSim l P zML (zMu q_L_law) 1701 (2, 1702, 2, 2, (Int.ofNat 0), []) from zs_aload_n dL_law_1701 rfl), ⟨(show zSim l P zML (zMu q_L_law) 1702 (2, 1703, 0, 2, (Int.ofNat 0), []) from zs_aload_n dL_law_1702 rfl), ⟨(show zSim l P zML (zMu q_L_law) 1703 (2, 1704, 3, 0, (Int.ofNat 0), []) from zs_iload_n dL_law_1703 rfl), ⟨(show zSim l P zML (zMu q_L_law) 1704 (0, 1705, 0, 0, (Int.ofNat 1), []) from zs_iconst (Int32.ofNat 1) dL_law_1704 (by decide +kernel) (by decide +kernel)), ⟨(show zSim l P zML (zMu q_L_law) 1705 (7, 1706, 0, 0, (Int.ofNat 0), []) from zs_iadd dL_law_1705), ⟨(show zSim l P zML (zMu q_L_law) 1706 (22, 1707, 0, 0, (Int.ofNat 0), []) from zs_iald dL_law_1706), ⟨(show zSim l P zML (zMu q_L_law) 1707 (2, 1708, 0, 2, (Int.ofNat 0), []) from zs_aload_n dL_law_1707 rfl), ⟨(show zSim l P zML (zMu q_L_law) 1708 (2, 1709, 3, 0, (Int.ofNat 0), []) from zs_iload_n dL_law_1708 rfl), ⟨(show zSim l P zML (zMu q_L_law) 1709 (0, 1710, 0, 0, (Int.ofNat 2), []) from zs_iconst (Int32.ofNat 2) dL_law_1709 (by decide +kernel) (by decide +kernel)), ⟨(show zSim l P zML (zMu q_L_law) 1710 (7, 1711, 0, 0, (Int.ofNat 0), []) from zs_iadd dL_law_1710), ⟨(show zSim l P zML (zMu q_L_law) 1711 (22, 1712, 0, 0, (Int.ofNat 0), []) from zs_iald dL_law_1711), trivial⟩⟩⟩⟩⟩⟩⟩⟩⟩⟩⟩⟩⟩⟩
theorem o_zk_L_law_107 {l : Launch} {P : zP} : zAll l P zML (zMu q_L_law) 1712 zk_L_law_107 := ⟨(show zSim l P zML (zMu q_L_law) 1712 (2, 1713, 0, 2, (Int.ofNat 0), []) from zs_aload_n dL_law_1712 rfl), ⟨(show zSim l P zML (zMu q_L_law) 1713 (2, 1714, 3, 0, (Int.ofNat 0), []) from zs_iload_n dL_law_1713 rfl), ⟨(show zSim l P zML (zMu q_L_law) 1714 (0, 1715, 0, 0, (Int.ofNat 3), []) from zs_iconst (Int32.ofNat 3) dL_law_1714 (by decide +kernel) (by decide +kernel)), ⟨(show zSim l P zML (zMu q_L_law) 1715 (7, 1716, 0, 0, (Int.ofNat 0), []) from zs_iadd dL_law_1715), ⟨(show zSim l P zML (zMu q_L_law) 1716 (22, 1717, 0, 0, (Int.ofNat 0), []) from zs_iald dL_law_1716), ⟨(show zSim l P zML (zMu q_L_law) 1717 (29, 1720, 196, 4, (Int.ofNat 12), [((Int.ofNat 0), 7)]) from zs_callV 12 q_X12_arrivals m_X12_arrivals (Nat.le_of_ble_eq_true rfl) dL_law_1717 rfl (xvc_12) w_1655 w_1656 w_1657 w_1654 w_853 h_X12_arrivals), ⟨(show zSim l P zML (zMu q_L_law) 1720 (15, 1721, 0, 0, (Int.ofNat 0), []) from zs_pop dL_law_1720), ⟨(show zSim l P zML (zMu q_L_law) 1721 (1, 1750, 0, 0, (Int.ofNat 0), []) from zs_goto 1750 dL_law_1721 (by decide +kernel)), ⟨(show zSim l P zML (zMu q_L_law) 1724 (2, 1725, 1, 2, (Int.ofNat 0), []) from zs_aload_n dL_law_1724 rfl), ⟨(show zSim l P zML (zMu q_L_law) 1725 (29, 1728, 165, 1, (Int.ofNat 11), [((Int.ofNat 0), 1)]) from zs_callV 11 q_X11_mark m_X11_mark (Nat.le_of_ble_eq_true rfl) dL_law_1725 rfl (xvc_11) w_1659 w_1660 w_1661 w_1658 w_625 h_X11_mark), trivial⟩⟩⟩⟩⟩⟩⟩⟩⟩⟩
theorem o_zk_L_law_108 {l : Launch} {P : zP} : zAll l P zML (zMu q_L_law) 1728 zk_L_law_108 := ⟨(show zSim l P zML (zMu q_L_law) 1728 (2, 1729, 2, 2, (Int.ofNat 0), []) from zs_aload_n dL_law_1728 rfl), ⟨(show zSim l P zML (zMu q_L_law) 1729 (29, 1732, 276, 1, (Int.ofNat 12), [((Int.ofNat 0), 1)]) from zs_callV 12 q_X12_mark m_X12_mark (Nat.le_of_ble_eq_true rfl) dL_law_1729 rfl (xvc_12) w_1663 w_1664 w_1665 w_1662 w_853 h_X12_mark), ⟨(show zSim l P zML (zMu q_L_law) 1732 (17, 1735, 1750, 2, (Int.ofNat 0), []) from zs_icmp_eq 1750 dL_law_1732 (by decide +kernel)), ⟨(show zSim l P zML (zMu q_L_law) 1735 (0, 1736, 0, 0, (Int.ofNat 0), []) from zs_iconst (Int32.ofNat 0) dL_law_1735 (by decide +kernel) (by decide +kernel)), ⟨(show zSim l P zML (zMu q_L_law) 1736 (30, 0, 3, 1, (Int.ofNat 0), []) from zs_reti 3 .boolean (Or.inr (Or.inr (Or.inr (Or.inl ⟨rfl, rfl⟩)))) dL_law_1736 rfl), ⟨(show zSim l P zML (zMu q_L_law) 1737 (2, 1738, 1, 2, (Int.ofNat 0), []) from zs_aload_n dL_law_1737 rfl), ⟨(show zSim l P zML (zMu q_L_law) 1738 (29, 1741, 144, 1, (Int.ofNat 11), [((Int.ofNat 0), 1)]) from zs_callV 11 q_X11_back m_X11_back (Nat.le_of_ble_eq_true rfl) dL_law_1738 rfl (xvc_11) w_1667 w_1668 w_1669 w_1666 w_625 h_X11_back), ⟨(show zSim l P zML (zMu q_L_law) 1741 (15, 1742, 0, 0, (Int.ofNat 0), []) from zs_pop dL_law_1741), ⟨(show zSim l P zML (zMu q_L_law) 1742 (2, 1743, 2, 2, (Int.ofNat 0), []) from zs_aload_n dL_law_1742 rfl), ⟨(show zSim l P zML (zMu q_L_law) 1743 (29, 1746, 199, 1, (Int.ofNat 12), [((Int.ofNat 0), 1)]) from zs_callV 12 q_X12_back m_X12_back (Nat.le_of_ble_eq_true rfl) dL_law_1743 rfl (xvc_12) w_1671 w_1672 w_1673 w_1670 w_853 h_X12_back), trivial⟩⟩⟩⟩⟩⟩⟩⟩⟩⟩
theorem o_zk_L_law_109 {l : Launch} {P : zP} : zAll l P zML (zMu q_L_law) 1744 zk_L_law_109 := ⟨(show zSim l P zML (zMu q_L_law) 1746 (15, 1747, 0, 0, (Int.ofNat 0), []) from zs_pop dL_law_1746), ⟨(show zSim l P zML (zMu q_L_law) 1747 (1, 1750, 0, 0, (Int.ofNat 0), []) from zs_goto 1750 dL_law_1747 (by decide +kernel)), ⟨(show zSim l P zML (zMu q_L_law) 1750 (5, 1753, 3, 0, (Int.ofNat 6), []) from zs_iinc (Int32.ofNat 6) dL_law_1750 (by decide +kernel) (Nat.le_of_ble_eq_true rfl) (by decide +kernel)), ⟨(show zSim l P zML (zMu q_L_law) 1753 (1, 18, 0, 0, (Int.ofNat 0), []) from zs_goto 18 dL_law_1753 (by decide +kernel)), ⟨(show zSim l P zML (zMu q_L_law) 1756 (0, 1757, 0, 0, (Int.ofNat 1), []) from zs_iconst (Int32.ofNat 1) dL_law_1756 (by decide +kernel) (by decide +kernel)), ⟨(show zSim l P zML (zMu q_L_law) 1757 (30, 0, 3, 1, (Int.ofNat 0), []) from zs_reti 3 .boolean (Or.inr (Or.inr (Or.inr (Or.inl ⟨rfl, rfl⟩)))) dL_law_1757 rfl), trivial⟩⟩⟩⟩⟩⟩
theorem o_L_law {l : Launch} {P : zP} : ∀ pc i, z_at zt_L_law pc = some i → zSim l P zML (zMu q_L_law) pc i := zTab_of ⟨o_zk_L_law_0, ⟨o_zk_L_law_1, ⟨o_zk_L_law_2, ⟨o_zk_L_law_3, ⟨o_zk_L_law_4, ⟨o_zk_L_law_5, ⟨o_zk_L_law_6, ⟨o_zk_L_law_7, ⟨o_zk_L_law_8, ⟨o_zk_L_law_9, ⟨o_zk_L_law_10, ⟨o_zk_L_law_11, ⟨o_zk_L_law_12, ⟨o_zk_L_law_13, ⟨o_zk_L_law_14, ⟨o_zk_L_law_15, ⟨o_zk_L_law_16, ⟨o_zk_L_law_17, ⟨o_zk_L_law_18, ⟨o_zk_L_law_19, ⟨o_zk_L_law_20, ⟨o_zk_L_law_21, ⟨o_zk_L_law_22, ⟨o_zk_L_law_23, ⟨o_zk_L_law_24, ⟨o_zk_L_law_25, ⟨o_zk_L_law_26, ⟨o_zk_L_law_27, ⟨o_zk_L_law_28, ⟨o_zk_L_law_29, ⟨o_zk_L_law_30, ⟨o_zk_L_law_31, ⟨o_zk_L_law_32, ⟨o_zk_L_law_33, ⟨o_zk_L_law_34, ⟨o_zk_L_law_35, ⟨o_zk_L_law_36, ⟨o_zk_L_law_37, ⟨o_zk_L_law_38, ⟨o_zk_L_law_39, ⟨o_zk_L_law_40, ⟨o_zk_L_law_41, ⟨o_zk_L_law_42, ⟨o_zk_L_law_43, ⟨o_zk_L_law_44, ⟨o_zk_L_law_45, ⟨o_zk_L_law_46, ⟨o_zk_L_law_47, ⟨o_zk_L_law_48, ⟨o_zk_L_law_49, ⟨o_zk_L_law_50, ⟨o_zk_L_law_51, ⟨o_zk_L_law_52, ⟨o_zk_L_law_53, ⟨o_zk_L_law_54, ⟨o_zk_L_law_55, ⟨o_zk_L_law_56, ⟨o_zk_L_law_57, ⟨o_zk_L_law_58, ⟨o_zk_L_law_59, ⟨o_zk_L_law_60, ⟨o_zk_L_law_61, ⟨o_zk_L_law_62, ⟨o_zk_L_law_63, ⟨o_zk_L_law_64, ⟨o_zk_L_law_65, ⟨o_zk_L_law_66, ⟨o_zk_L_law_67, ⟨o_zk_L_law_68, ⟨o_zk_L_law_69, ⟨o_zk_L_law_70, ⟨o_zk_L_law_71, ⟨o_zk_L_law_72, ⟨o_zk_L_law_73, ⟨o_zk_L_law_74, ⟨o_zk_L_law_75, ⟨o_zk_L_law_76, ⟨o_zk_L_law_77, ⟨o_zk_L_law_78, ⟨o_zk_L_law_79, ⟨o_zk_L_law_80, ⟨o_zk_L_law_81, ⟨o_zk_L_law_82, ⟨o_zk_L_law_83, ⟨o_zk_L_law_84, ⟨o_zk_L_law_85, ⟨o_zk_L_law_86, ⟨o_zk_L_law_87, ⟨o_zk_L_law_88, ⟨o_zk_L_law_89, ⟨o_zk_L_law_90, ⟨o_zk_L_law_91, ⟨o_zk_L_law_92, ⟨o_zk_L_law_93, ⟨o_zk_L_law_94, ⟨o_zk_L_law_95, ⟨o_zk_L_law_96, ⟨o_zk_L_law_97, ⟨o_zk_L_law_98, ⟨o_zk_L_law_99, ⟨o_zk_L_law_100, ⟨o_zk_L_law_101, ⟨o_zk_L_law_102, ⟨o_zk_L_law_103, ⟨o_zk_L_law_104, ⟨o_zk_L_law_105, ⟨o_zk_L_law_106, ⟨o_zk_L_law_107, ⟨o_zk_L_law_108, ⟨o_zk_L_law_109, trivial⟩⟩⟩⟩⟩⟩⟩⟩⟩⟩⟩⟩⟩⟩⟩⟩⟩⟩⟩⟩⟩⟩⟩⟩⟩⟩⟩⟩⟩⟩⟩⟩⟩⟩⟩⟩⟩⟩⟩⟩⟩⟩⟩⟩⟩⟩⟩⟩⟩⟩⟩⟩⟩⟩⟩⟩⟩⟩⟩⟩⟩⟩⟩⟩⟩⟩⟩⟩⟩⟩⟩⟩⟩⟩⟩⟩⟩⟩⟩⟩⟩⟩⟩⟩⟩⟩⟩⟩⟩⟩⟩⟩⟩⟩⟩⟩⟩⟩⟩⟩⟩⟩⟩⟩⟩⟩⟩⟩⟩⟩
