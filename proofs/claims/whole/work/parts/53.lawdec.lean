theorem dL_law_0 : decode code 0 = .ok (.new 7, 3) := by decide +kernel
theorem dL_law_3 : decode code 3 = .ok (.dup, 1) := by decide +kernel
theorem dL_law_4 : decode code 4 = .ok (.invokespecial 9, 3) := by decide +kernel
theorem dL_law_7 : decode code 7 = .ok (.astore_n 1, 1) := by decide +kernel
theorem dL_law_8 : decode code 8 = .ok (.new 10, 3) := by decide +kernel
theorem dL_law_11 : decode code 11 = .ok (.dup, 1) := by decide +kernel
theorem dL_law_12 : decode code 12 = .ok (.invokespecial 12, 3) := by decide +kernel
theorem dL_law_15 : decode code 15 = .ok (.astore_n 2, 1) := by decide +kernel
theorem dL_law_16 : decode code 16 = .ok (.iconst 0, 1) := by decide +kernel
theorem dL_law_17 : decode code 17 = .ok (.istore_n 3, 1) := by decide +kernel
theorem dL_law_18 : decode code 18 = .ok (.iload_n 3, 1) := by decide +kernel
theorem dL_law_19 : decode code 19 = .ok (.aload_n 0, 1) := by decide +kernel
theorem dL_law_20 : decode code 20 = .ok (.arraylength, 1) := by decide +kernel
theorem dL_law_21 : decode code 21 = .ok (.bipush 6, 2) := by decide +kernel
theorem dL_law_23 : decode code 23 = .ok (.isub, 1) := by decide +kernel
theorem dL_law_24 : decode code 24 = .ok (.if_icmp .gt 2143, 3) := by decide +kernel
theorem dL_law_27 : decode code 27 = .ok (.aload_n 0, 1) := by decide +kernel
theorem dL_law_28 : decode code 28 = .ok (.iload_n 3, 1) := by decide +kernel
theorem dL_law_29 : decode code 29 = .ok (.iaload, 1) := by decide +kernel
theorem dL_law_30 : decode code 30 = .ok (.bipush 63, 2) := by decide +kernel
theorem dL_law_32 : decode code 32 = .ok (.iand, 1) := by decide +kernel
theorem dL_law_33 : decode code 33 = .ok (.tableswitch 2128 0 58 #[251, 314, 337, 350, 373, 406, 439, 462, 495, 528, 561, 594, 637, 680, 723, 756, 799, 822, 845, 868, 891, 914, 947, 980, 993, 1016, 1049, 1082, 1115, 1138, 1161, 1204, 1257, 1310, 1353, 1376, 1399, 1422, 1455, 1478, 1511, 1554, 1587, 1620, 1643, 1656, 1669, 1712, 1755, 1778, 1801, 1824, 1847, 1880, 1903, 1926, 1949, 1992, 2065], 251) := by decide +kernel
theorem dL_law_284 : decode code 284 = .ok (.aload_n 1, 1) := by decide +kernel
theorem dL_law_285 : decode code 285 = .ok (.aload_n 0, 1) := by decide +kernel
theorem dL_law_286 : decode code 286 = .ok (.iload_n 3, 1) := by decide +kernel
theorem dL_law_287 : decode code 287 = .ok (.iconst 1, 1) := by decide +kernel
theorem dL_law_288 : decode code 288 = .ok (.iadd, 1) := by decide +kernel
theorem dL_law_289 : decode code 289 = .ok (.iaload, 1) := by decide +kernel
theorem dL_law_290 : decode code 290 = .ok (.aload_n 0, 1) := by decide +kernel
theorem dL_law_291 : decode code 291 = .ok (.iload_n 3, 1) := by decide +kernel
theorem dL_law_292 : decode code 292 = .ok (.iconst 2, 1) := by decide +kernel
theorem dL_law_293 : decode code 293 = .ok (.iadd, 1) := by decide +kernel
theorem dL_law_294 : decode code 294 = .ok (.iaload, 1) := by decide +kernel
theorem dL_law_295 : decode code 295 = .ok (.aload_n 0, 1) := by decide +kernel
theorem dL_law_296 : decode code 296 = .ok (.iload_n 3, 1) := by decide +kernel
theorem dL_law_297 : decode code 297 = .ok (.iconst 3, 1) := by decide +kernel
theorem dL_law_298 : decode code 298 = .ok (.iadd, 1) := by decide +kernel
theorem dL_law_299 : decode code 299 = .ok (.iaload, 1) := by decide +kernel
theorem dL_law_300 : decode code 300 = .ok (.aload_n 0, 1) := by decide +kernel
theorem dL_law_301 : decode code 301 = .ok (.iload_n 3, 1) := by decide +kernel
theorem dL_law_302 : decode code 302 = .ok (.iconst 4, 1) := by decide +kernel
theorem dL_law_303 : decode code 303 = .ok (.iadd, 1) := by decide +kernel
theorem dL_law_304 : decode code 304 = .ok (.iaload, 1) := by decide +kernel
theorem dL_law_305 : decode code 305 = .ok (.aload_n 0, 1) := by decide +kernel
theorem dL_law_306 : decode code 306 = .ok (.iload_n 3, 1) := by decide +kernel
theorem dL_law_307 : decode code 307 = .ok (.iconst 5, 1) := by decide +kernel
theorem dL_law_308 : decode code 308 = .ok (.iadd, 1) := by decide +kernel
theorem dL_law_309 : decode code 309 = .ok (.iaload, 1) := by decide +kernel
theorem dL_law_310 : decode code 310 = .ok (.invokevirtual 13, 3) := by decide +kernel
theorem dL_law_313 : decode code 313 = .ok (.aload_n 2, 1) := by decide +kernel
theorem dL_law_314 : decode code 314 = .ok (.aload_n 0, 1) := by decide +kernel
theorem dL_law_315 : decode code 315 = .ok (.iload_n 3, 1) := by decide +kernel
theorem dL_law_316 : decode code 316 = .ok (.iconst 1, 1) := by decide +kernel
theorem dL_law_317 : decode code 317 = .ok (.iadd, 1) := by decide +kernel
theorem dL_law_318 : decode code 318 = .ok (.iaload, 1) := by decide +kernel
theorem dL_law_319 : decode code 319 = .ok (.aload_n 0, 1) := by decide +kernel
theorem dL_law_320 : decode code 320 = .ok (.iload_n 3, 1) := by decide +kernel
theorem dL_law_321 : decode code 321 = .ok (.iconst 2, 1) := by decide +kernel
theorem dL_law_322 : decode code 322 = .ok (.iadd, 1) := by decide +kernel
theorem dL_law_323 : decode code 323 = .ok (.iaload, 1) := by decide +kernel
theorem dL_law_324 : decode code 324 = .ok (.aload_n 0, 1) := by decide +kernel
theorem dL_law_325 : decode code 325 = .ok (.iload_n 3, 1) := by decide +kernel
theorem dL_law_326 : decode code 326 = .ok (.iconst 3, 1) := by decide +kernel
theorem dL_law_327 : decode code 327 = .ok (.iadd, 1) := by decide +kernel
theorem dL_law_328 : decode code 328 = .ok (.iaload, 1) := by decide +kernel
theorem dL_law_329 : decode code 329 = .ok (.aload_n 0, 1) := by decide +kernel
theorem dL_law_330 : decode code 330 = .ok (.iload_n 3, 1) := by decide +kernel
theorem dL_law_331 : decode code 331 = .ok (.iconst 4, 1) := by decide +kernel
theorem dL_law_332 : decode code 332 = .ok (.iadd, 1) := by decide +kernel
theorem dL_law_333 : decode code 333 = .ok (.iaload, 1) := by decide +kernel
theorem dL_law_334 : decode code 334 = .ok (.aload_n 0, 1) := by decide +kernel
theorem dL_law_335 : decode code 335 = .ok (.iload_n 3, 1) := by decide +kernel
theorem dL_law_336 : decode code 336 = .ok (.iconst 5, 1) := by decide +kernel
theorem dL_law_337 : decode code 337 = .ok (.iadd, 1) := by decide +kernel
theorem dL_law_338 : decode code 338 = .ok (.iaload, 1) := by decide +kernel
theorem dL_law_339 : decode code 339 = .ok (.invokevirtual 17, 3) := by decide +kernel
theorem dL_law_342 : decode code 342 = .ok (.if_icmp .eq 1819, 3) := by decide +kernel
theorem dL_law_345 : decode code 345 = .ok (.iconst 0, 1) := by decide +kernel
theorem dL_law_346 : decode code 346 = .ok (.ireturn, 1) := by decide +kernel
theorem dL_law_347 : decode code 347 = .ok (.aload_n 1, 1) := by decide +kernel
theorem dL_law_348 : decode code 348 = .ok (.aload_n 0, 1) := by decide +kernel
theorem dL_law_349 : decode code 349 = .ok (.iload_n 3, 1) := by decide +kernel
theorem dL_law_350 : decode code 350 = .ok (.iconst 1, 1) := by decide +kernel
theorem dL_law_351 : decode code 351 = .ok (.iadd, 1) := by decide +kernel
theorem dL_law_352 : decode code 352 = .ok (.iaload, 1) := by decide +kernel
theorem dL_law_353 : decode code 353 = .ok (.invokevirtual 18, 3) := by decide +kernel
theorem dL_law_356 : decode code 356 = .ok (.aload_n 2, 1) := by decide +kernel
theorem dL_law_357 : decode code 357 = .ok (.aload_n 0, 1) := by decide +kernel
theorem dL_law_358 : decode code 358 = .ok (.iload_n 3, 1) := by decide +kernel
theorem dL_law_359 : decode code 359 = .ok (.iconst 1, 1) := by decide +kernel
theorem dL_law_360 : decode code 360 = .ok (.iadd, 1) := by decide +kernel
theorem dL_law_361 : decode code 361 = .ok (.iaload, 1) := by decide +kernel
theorem dL_law_362 : decode code 362 = .ok (.invokevirtual 22, 3) := by decide +kernel
theorem dL_law_365 : decode code 365 = .ok (.if_icmp .eq 1796, 3) := by decide +kernel
theorem dL_law_368 : decode code 368 = .ok (.iconst 0, 1) := by decide +kernel
theorem dL_law_369 : decode code 369 = .ok (.ireturn, 1) := by decide +kernel
theorem dL_law_370 : decode code 370 = .ok (.aload_n 1, 1) := by decide +kernel
theorem dL_law_371 : decode code 371 = .ok (.invokevirtual 23, 3) := by decide +kernel
theorem dL_law_374 : decode code 374 = .ok (.aload_n 2, 1) := by decide +kernel
theorem dL_law_375 : decode code 375 = .ok (.invokevirtual 27, 3) := by decide +kernel
theorem dL_law_378 : decode code 378 = .ok (.if_icmp .eq 1783, 3) := by decide +kernel
theorem dL_law_381 : decode code 381 = .ok (.iconst 0, 1) := by decide +kernel
theorem dL_law_382 : decode code 382 = .ok (.ireturn, 1) := by decide +kernel
theorem dL_law_383 : decode code 383 = .ok (.aload_n 1, 1) := by decide +kernel
theorem dL_law_384 : decode code 384 = .ok (.aload_n 0, 1) := by decide +kernel
theorem dL_law_385 : decode code 385 = .ok (.iload_n 3, 1) := by decide +kernel
theorem dL_law_386 : decode code 386 = .ok (.iconst 1, 1) := by decide +kernel
theorem dL_law_387 : decode code 387 = .ok (.iadd, 1) := by decide +kernel
theorem dL_law_388 : decode code 388 = .ok (.iaload, 1) := by decide +kernel
theorem dL_law_389 : decode code 389 = .ok (.invokevirtual 28, 3) := by decide +kernel
theorem dL_law_392 : decode code 392 = .ok (.aload_n 2, 1) := by decide +kernel
theorem dL_law_393 : decode code 393 = .ok (.aload_n 0, 1) := by decide +kernel
theorem dL_law_394 : decode code 394 = .ok (.iload_n 3, 1) := by decide +kernel
theorem dL_law_395 : decode code 395 = .ok (.iconst 1, 1) := by decide +kernel
theorem dL_law_396 : decode code 396 = .ok (.iadd, 1) := by decide +kernel
theorem dL_law_397 : decode code 397 = .ok (.iaload, 1) := by decide +kernel
theorem dL_law_398 : decode code 398 = .ok (.invokevirtual 31, 3) := by decide +kernel
theorem dL_law_401 : decode code 401 = .ok (.if_icmp .eq 1760, 3) := by decide +kernel
theorem dL_law_404 : decode code 404 = .ok (.iconst 0, 1) := by decide +kernel
theorem dL_law_405 : decode code 405 = .ok (.ireturn, 1) := by decide +kernel
theorem dL_law_406 : decode code 406 = .ok (.aload_n 1, 1) := by decide +kernel
theorem dL_law_407 : decode code 407 = .ok (.aload_n 0, 1) := by decide +kernel
theorem dL_law_408 : decode code 408 = .ok (.iload_n 3, 1) := by decide +kernel
theorem dL_law_409 : decode code 409 = .ok (.iconst 1, 1) := by decide +kernel
theorem dL_law_410 : decode code 410 = .ok (.iadd, 1) := by decide +kernel
theorem dL_law_411 : decode code 411 = .ok (.iaload, 1) := by decide +kernel
theorem dL_law_412 : decode code 412 = .ok (.aload_n 0, 1) := by decide +kernel
theorem dL_law_413 : decode code 413 = .ok (.iload_n 3, 1) := by decide +kernel
theorem dL_law_414 : decode code 414 = .ok (.iconst 2, 1) := by decide +kernel
theorem dL_law_415 : decode code 415 = .ok (.iadd, 1) := by decide +kernel
theorem dL_law_416 : decode code 416 = .ok (.iaload, 1) := by decide +kernel
theorem dL_law_417 : decode code 417 = .ok (.invokevirtual 32, 3) := by decide +kernel
theorem dL_law_420 : decode code 420 = .ok (.aload_n 2, 1) := by decide +kernel
theorem dL_law_421 : decode code 421 = .ok (.aload_n 0, 1) := by decide +kernel
theorem dL_law_422 : decode code 422 = .ok (.iload_n 3, 1) := by decide +kernel
theorem dL_law_423 : decode code 423 = .ok (.iconst 1, 1) := by decide +kernel
theorem dL_law_424 : decode code 424 = .ok (.iadd, 1) := by decide +kernel
theorem dL_law_425 : decode code 425 = .ok (.iaload, 1) := by decide +kernel
theorem dL_law_426 : decode code 426 = .ok (.aload_n 0, 1) := by decide +kernel
theorem dL_law_427 : decode code 427 = .ok (.iload_n 3, 1) := by decide +kernel
theorem dL_law_428 : decode code 428 = .ok (.iconst 2, 1) := by decide +kernel
theorem dL_law_429 : decode code 429 = .ok (.iadd, 1) := by decide +kernel
theorem dL_law_430 : decode code 430 = .ok (.iaload, 1) := by decide +kernel
theorem dL_law_431 : decode code 431 = .ok (.invokevirtual 36, 3) := by decide +kernel
theorem dL_law_434 : decode code 434 = .ok (.if_icmp .eq 1727, 3) := by decide +kernel
theorem dL_law_437 : decode code 437 = .ok (.iconst 0, 1) := by decide +kernel
theorem dL_law_438 : decode code 438 = .ok (.ireturn, 1) := by decide +kernel
theorem dL_law_439 : decode code 439 = .ok (.aload_n 1, 1) := by decide +kernel
theorem dL_law_440 : decode code 440 = .ok (.aload_n 0, 1) := by decide +kernel
theorem dL_law_441 : decode code 441 = .ok (.iload_n 3, 1) := by decide +kernel
theorem dL_law_442 : decode code 442 = .ok (.iconst 1, 1) := by decide +kernel
theorem dL_law_443 : decode code 443 = .ok (.iadd, 1) := by decide +kernel
theorem dL_law_444 : decode code 444 = .ok (.iaload, 1) := by decide +kernel
theorem dL_law_445 : decode code 445 = .ok (.aload_n 0, 1) := by decide +kernel
theorem dL_law_446 : decode code 446 = .ok (.iload_n 3, 1) := by decide +kernel
theorem dL_law_447 : decode code 447 = .ok (.iconst 2, 1) := by decide +kernel
theorem dL_law_448 : decode code 448 = .ok (.iadd, 1) := by decide +kernel
theorem dL_law_449 : decode code 449 = .ok (.iaload, 1) := by decide +kernel
theorem dL_law_450 : decode code 450 = .ok (.invokevirtual 37, 3) := by decide +kernel
theorem dL_law_453 : decode code 453 = .ok (.aload_n 2, 1) := by decide +kernel
theorem dL_law_454 : decode code 454 = .ok (.aload_n 0, 1) := by decide +kernel
theorem dL_law_455 : decode code 455 = .ok (.iload_n 3, 1) := by decide +kernel
theorem dL_law_456 : decode code 456 = .ok (.iconst 1, 1) := by decide +kernel
theorem dL_law_457 : decode code 457 = .ok (.iadd, 1) := by decide +kernel
theorem dL_law_458 : decode code 458 = .ok (.iaload, 1) := by decide +kernel
theorem dL_law_459 : decode code 459 = .ok (.aload_n 0, 1) := by decide +kernel
theorem dL_law_460 : decode code 460 = .ok (.iload_n 3, 1) := by decide +kernel
theorem dL_law_461 : decode code 461 = .ok (.iconst 2, 1) := by decide +kernel
theorem dL_law_462 : decode code 462 = .ok (.iadd, 1) := by decide +kernel
theorem dL_law_463 : decode code 463 = .ok (.iaload, 1) := by decide +kernel
theorem dL_law_464 : decode code 464 = .ok (.invokevirtual 40, 3) := by decide +kernel
theorem dL_law_467 : decode code 467 = .ok (.if_icmp .eq 1694, 3) := by decide +kernel
theorem dL_law_470 : decode code 470 = .ok (.iconst 0, 1) := by decide +kernel
theorem dL_law_471 : decode code 471 = .ok (.ireturn, 1) := by decide +kernel
theorem dL_law_472 : decode code 472 = .ok (.aload_n 1, 1) := by decide +kernel
theorem dL_law_473 : decode code 473 = .ok (.aload_n 0, 1) := by decide +kernel
theorem dL_law_474 : decode code 474 = .ok (.iload_n 3, 1) := by decide +kernel
theorem dL_law_475 : decode code 475 = .ok (.iconst 1, 1) := by decide +kernel
theorem dL_law_476 : decode code 476 = .ok (.iadd, 1) := by decide +kernel
theorem dL_law_477 : decode code 477 = .ok (.iaload, 1) := by decide +kernel
theorem dL_law_478 : decode code 478 = .ok (.invokevirtual 41, 3) := by decide +kernel
theorem dL_law_481 : decode code 481 = .ok (.aload_n 2, 1) := by decide +kernel
theorem dL_law_482 : decode code 482 = .ok (.aload_n 0, 1) := by decide +kernel
theorem dL_law_483 : decode code 483 = .ok (.iload_n 3, 1) := by decide +kernel
theorem dL_law_484 : decode code 484 = .ok (.iconst 1, 1) := by decide +kernel
theorem dL_law_485 : decode code 485 = .ok (.iadd, 1) := by decide +kernel
theorem dL_law_486 : decode code 486 = .ok (.iaload, 1) := by decide +kernel
theorem dL_law_487 : decode code 487 = .ok (.invokevirtual 44, 3) := by decide +kernel
theorem dL_law_490 : decode code 490 = .ok (.if_icmp .eq 1671, 3) := by decide +kernel
theorem dL_law_493 : decode code 493 = .ok (.iconst 0, 1) := by decide +kernel
theorem dL_law_494 : decode code 494 = .ok (.ireturn, 1) := by decide +kernel
theorem dL_law_495 : decode code 495 = .ok (.aload_n 1, 1) := by decide +kernel
theorem dL_law_496 : decode code 496 = .ok (.aload_n 0, 1) := by decide +kernel
theorem dL_law_497 : decode code 497 = .ok (.iload_n 3, 1) := by decide +kernel
theorem dL_law_498 : decode code 498 = .ok (.iconst 1, 1) := by decide +kernel
theorem dL_law_499 : decode code 499 = .ok (.iadd, 1) := by decide +kernel
theorem dL_law_500 : decode code 500 = .ok (.iaload, 1) := by decide +kernel
theorem dL_law_501 : decode code 501 = .ok (.aload_n 0, 1) := by decide +kernel
theorem dL_law_502 : decode code 502 = .ok (.iload_n 3, 1) := by decide +kernel
theorem dL_law_503 : decode code 503 = .ok (.iconst 2, 1) := by decide +kernel
theorem dL_law_504 : decode code 504 = .ok (.iadd, 1) := by decide +kernel
theorem dL_law_505 : decode code 505 = .ok (.iaload, 1) := by decide +kernel
theorem dL_law_506 : decode code 506 = .ok (.invokevirtual 45, 3) := by decide +kernel
theorem dL_law_509 : decode code 509 = .ok (.aload_n 2, 1) := by decide +kernel
theorem dL_law_510 : decode code 510 = .ok (.aload_n 0, 1) := by decide +kernel
theorem dL_law_511 : decode code 511 = .ok (.iload_n 3, 1) := by decide +kernel
theorem dL_law_512 : decode code 512 = .ok (.iconst 1, 1) := by decide +kernel
theorem dL_law_513 : decode code 513 = .ok (.iadd, 1) := by decide +kernel
theorem dL_law_514 : decode code 514 = .ok (.iaload, 1) := by decide +kernel
theorem dL_law_515 : decode code 515 = .ok (.aload_n 0, 1) := by decide +kernel
theorem dL_law_516 : decode code 516 = .ok (.iload_n 3, 1) := by decide +kernel
theorem dL_law_517 : decode code 517 = .ok (.iconst 2, 1) := by decide +kernel
theorem dL_law_518 : decode code 518 = .ok (.iadd, 1) := by decide +kernel
theorem dL_law_519 : decode code 519 = .ok (.iaload, 1) := by decide +kernel
theorem dL_law_520 : decode code 520 = .ok (.invokevirtual 48, 3) := by decide +kernel
theorem dL_law_523 : decode code 523 = .ok (.if_icmp .eq 1638, 3) := by decide +kernel
theorem dL_law_526 : decode code 526 = .ok (.iconst 0, 1) := by decide +kernel
theorem dL_law_527 : decode code 527 = .ok (.ireturn, 1) := by decide +kernel
theorem dL_law_528 : decode code 528 = .ok (.aload_n 1, 1) := by decide +kernel
theorem dL_law_529 : decode code 529 = .ok (.aload_n 0, 1) := by decide +kernel
theorem dL_law_530 : decode code 530 = .ok (.iload_n 3, 1) := by decide +kernel
theorem dL_law_531 : decode code 531 = .ok (.iconst 1, 1) := by decide +kernel
theorem dL_law_532 : decode code 532 = .ok (.iadd, 1) := by decide +kernel
theorem dL_law_533 : decode code 533 = .ok (.iaload, 1) := by decide +kernel
theorem dL_law_534 : decode code 534 = .ok (.aload_n 0, 1) := by decide +kernel
theorem dL_law_535 : decode code 535 = .ok (.iload_n 3, 1) := by decide +kernel
theorem dL_law_536 : decode code 536 = .ok (.iconst 2, 1) := by decide +kernel
theorem dL_law_537 : decode code 537 = .ok (.iadd, 1) := by decide +kernel
theorem dL_law_538 : decode code 538 = .ok (.iaload, 1) := by decide +kernel
theorem dL_law_539 : decode code 539 = .ok (.invokevirtual 49, 3) := by decide +kernel
theorem dL_law_542 : decode code 542 = .ok (.aload_n 2, 1) := by decide +kernel
theorem dL_law_543 : decode code 543 = .ok (.aload_n 0, 1) := by decide +kernel
theorem dL_law_544 : decode code 544 = .ok (.iload_n 3, 1) := by decide +kernel
theorem dL_law_545 : decode code 545 = .ok (.iconst 1, 1) := by decide +kernel
theorem dL_law_546 : decode code 546 = .ok (.iadd, 1) := by decide +kernel
theorem dL_law_547 : decode code 547 = .ok (.iaload, 1) := by decide +kernel
theorem dL_law_548 : decode code 548 = .ok (.aload_n 0, 1) := by decide +kernel
theorem dL_law_549 : decode code 549 = .ok (.iload_n 3, 1) := by decide +kernel
theorem dL_law_550 : decode code 550 = .ok (.iconst 2, 1) := by decide +kernel
theorem dL_law_551 : decode code 551 = .ok (.iadd, 1) := by decide +kernel
theorem dL_law_552 : decode code 552 = .ok (.iaload, 1) := by decide +kernel
theorem dL_law_553 : decode code 553 = .ok (.invokevirtual 52, 3) := by decide +kernel
theorem dL_law_556 : decode code 556 = .ok (.if_icmp .eq 1605, 3) := by decide +kernel
theorem dL_law_559 : decode code 559 = .ok (.iconst 0, 1) := by decide +kernel
theorem dL_law_560 : decode code 560 = .ok (.ireturn, 1) := by decide +kernel
theorem dL_law_561 : decode code 561 = .ok (.aload_n 1, 1) := by decide +kernel
theorem dL_law_562 : decode code 562 = .ok (.aload_n 0, 1) := by decide +kernel
theorem dL_law_563 : decode code 563 = .ok (.iload_n 3, 1) := by decide +kernel
theorem dL_law_564 : decode code 564 = .ok (.iconst 1, 1) := by decide +kernel
theorem dL_law_565 : decode code 565 = .ok (.iadd, 1) := by decide +kernel
theorem dL_law_566 : decode code 566 = .ok (.iaload, 1) := by decide +kernel
theorem dL_law_567 : decode code 567 = .ok (.aload_n 0, 1) := by decide +kernel
theorem dL_law_568 : decode code 568 = .ok (.iload_n 3, 1) := by decide +kernel
theorem dL_law_569 : decode code 569 = .ok (.iconst 2, 1) := by decide +kernel
theorem dL_law_570 : decode code 570 = .ok (.iadd, 1) := by decide +kernel
theorem dL_law_571 : decode code 571 = .ok (.iaload, 1) := by decide +kernel
theorem dL_law_572 : decode code 572 = .ok (.invokevirtual 53, 3) := by decide +kernel
theorem dL_law_575 : decode code 575 = .ok (.aload_n 2, 1) := by decide +kernel
theorem dL_law_576 : decode code 576 = .ok (.aload_n 0, 1) := by decide +kernel
theorem dL_law_577 : decode code 577 = .ok (.iload_n 3, 1) := by decide +kernel
theorem dL_law_578 : decode code 578 = .ok (.iconst 1, 1) := by decide +kernel
theorem dL_law_579 : decode code 579 = .ok (.iadd, 1) := by decide +kernel
theorem dL_law_580 : decode code 580 = .ok (.iaload, 1) := by decide +kernel
theorem dL_law_581 : decode code 581 = .ok (.aload_n 0, 1) := by decide +kernel
theorem dL_law_582 : decode code 582 = .ok (.iload_n 3, 1) := by decide +kernel
theorem dL_law_583 : decode code 583 = .ok (.iconst 2, 1) := by decide +kernel
theorem dL_law_584 : decode code 584 = .ok (.iadd, 1) := by decide +kernel
theorem dL_law_585 : decode code 585 = .ok (.iaload, 1) := by decide +kernel
theorem dL_law_586 : decode code 586 = .ok (.invokevirtual 56, 3) := by decide +kernel
theorem dL_law_589 : decode code 589 = .ok (.if_icmp .eq 1572, 3) := by decide +kernel
theorem dL_law_592 : decode code 592 = .ok (.iconst 0, 1) := by decide +kernel
theorem dL_law_593 : decode code 593 = .ok (.ireturn, 1) := by decide +kernel
theorem dL_law_594 : decode code 594 = .ok (.aload_n 1, 1) := by decide +kernel
theorem dL_law_595 : decode code 595 = .ok (.aload_n 0, 1) := by decide +kernel
theorem dL_law_596 : decode code 596 = .ok (.iload_n 3, 1) := by decide +kernel
theorem dL_law_597 : decode code 597 = .ok (.iconst 1, 1) := by decide +kernel
theorem dL_law_598 : decode code 598 = .ok (.iadd, 1) := by decide +kernel
theorem dL_law_599 : decode code 599 = .ok (.iaload, 1) := by decide +kernel
theorem dL_law_600 : decode code 600 = .ok (.aload_n 0, 1) := by decide +kernel
theorem dL_law_601 : decode code 601 = .ok (.iload_n 3, 1) := by decide +kernel
theorem dL_law_602 : decode code 602 = .ok (.iconst 2, 1) := by decide +kernel
theorem dL_law_603 : decode code 603 = .ok (.iadd, 1) := by decide +kernel
theorem dL_law_604 : decode code 604 = .ok (.iaload, 1) := by decide +kernel
theorem dL_law_605 : decode code 605 = .ok (.invokevirtual 57, 3) := by decide +kernel
theorem dL_law_608 : decode code 608 = .ok (.aload_n 2, 1) := by decide +kernel
theorem dL_law_609 : decode code 609 = .ok (.aload_n 0, 1) := by decide +kernel
theorem dL_law_610 : decode code 610 = .ok (.iload_n 3, 1) := by decide +kernel
theorem dL_law_611 : decode code 611 = .ok (.iconst 1, 1) := by decide +kernel
theorem dL_law_612 : decode code 612 = .ok (.iadd, 1) := by decide +kernel
theorem dL_law_613 : decode code 613 = .ok (.iaload, 1) := by decide +kernel
theorem dL_law_614 : decode code 614 = .ok (.aload_n 0, 1) := by decide +kernel
theorem dL_law_615 : decode code 615 = .ok (.iload_n 3, 1) := by decide +kernel
theorem dL_law_616 : decode code 616 = .ok (.iconst 2, 1) := by decide +kernel
theorem dL_law_617 : decode code 617 = .ok (.iadd, 1) := by decide +kernel
theorem dL_law_618 : decode code 618 = .ok (.iaload, 1) := by decide +kernel
theorem dL_law_619 : decode code 619 = .ok (.invokevirtual 60, 3) := by decide +kernel
theorem dL_law_622 : decode code 622 = .ok (.if_icmp .eq 1539, 3) := by decide +kernel
theorem dL_law_625 : decode code 625 = .ok (.iconst 0, 1) := by decide +kernel
theorem dL_law_626 : decode code 626 = .ok (.ireturn, 1) := by decide +kernel
theorem dL_law_627 : decode code 627 = .ok (.aload_n 1, 1) := by decide +kernel
theorem dL_law_628 : decode code 628 = .ok (.aload_n 0, 1) := by decide +kernel
theorem dL_law_629 : decode code 629 = .ok (.iload_n 3, 1) := by decide +kernel
theorem dL_law_630 : decode code 630 = .ok (.iconst 1, 1) := by decide +kernel
theorem dL_law_631 : decode code 631 = .ok (.iadd, 1) := by decide +kernel
theorem dL_law_632 : decode code 632 = .ok (.iaload, 1) := by decide +kernel
theorem dL_law_633 : decode code 633 = .ok (.aload_n 0, 1) := by decide +kernel
theorem dL_law_634 : decode code 634 = .ok (.iload_n 3, 1) := by decide +kernel
theorem dL_law_635 : decode code 635 = .ok (.iconst 2, 1) := by decide +kernel
theorem dL_law_636 : decode code 636 = .ok (.iadd, 1) := by decide +kernel
theorem dL_law_637 : decode code 637 = .ok (.iaload, 1) := by decide +kernel
theorem dL_law_638 : decode code 638 = .ok (.aload_n 0, 1) := by decide +kernel
theorem dL_law_639 : decode code 639 = .ok (.iload_n 3, 1) := by decide +kernel
theorem dL_law_640 : decode code 640 = .ok (.iconst 3, 1) := by decide +kernel
theorem dL_law_641 : decode code 641 = .ok (.iadd, 1) := by decide +kernel
theorem dL_law_642 : decode code 642 = .ok (.iaload, 1) := by decide +kernel
theorem dL_law_643 : decode code 643 = .ok (.invokevirtual 61, 3) := by decide +kernel
theorem dL_law_646 : decode code 646 = .ok (.aload_n 2, 1) := by decide +kernel
theorem dL_law_647 : decode code 647 = .ok (.aload_n 0, 1) := by decide +kernel
theorem dL_law_648 : decode code 648 = .ok (.iload_n 3, 1) := by decide +kernel
theorem dL_law_649 : decode code 649 = .ok (.iconst 1, 1) := by decide +kernel
theorem dL_law_650 : decode code 650 = .ok (.iadd, 1) := by decide +kernel
theorem dL_law_651 : decode code 651 = .ok (.iaload, 1) := by decide +kernel
theorem dL_law_652 : decode code 652 = .ok (.aload_n 0, 1) := by decide +kernel
theorem dL_law_653 : decode code 653 = .ok (.iload_n 3, 1) := by decide +kernel
theorem dL_law_654 : decode code 654 = .ok (.iconst 2, 1) := by decide +kernel
theorem dL_law_655 : decode code 655 = .ok (.iadd, 1) := by decide +kernel
theorem dL_law_656 : decode code 656 = .ok (.iaload, 1) := by decide +kernel
theorem dL_law_657 : decode code 657 = .ok (.aload_n 0, 1) := by decide +kernel
theorem dL_law_658 : decode code 658 = .ok (.iload_n 3, 1) := by decide +kernel
theorem dL_law_659 : decode code 659 = .ok (.iconst 3, 1) := by decide +kernel
theorem dL_law_660 : decode code 660 = .ok (.iadd, 1) := by decide +kernel
theorem dL_law_661 : decode code 661 = .ok (.iaload, 1) := by decide +kernel
theorem dL_law_662 : decode code 662 = .ok (.invokevirtual 65, 3) := by decide +kernel
theorem dL_law_665 : decode code 665 = .ok (.if_icmp .eq 1496, 3) := by decide +kernel
theorem dL_law_668 : decode code 668 = .ok (.iconst 0, 1) := by decide +kernel
theorem dL_law_669 : decode code 669 = .ok (.ireturn, 1) := by decide +kernel
theorem dL_law_670 : decode code 670 = .ok (.aload_n 1, 1) := by decide +kernel
theorem dL_law_671 : decode code 671 = .ok (.aload_n 0, 1) := by decide +kernel
theorem dL_law_672 : decode code 672 = .ok (.iload_n 3, 1) := by decide +kernel
theorem dL_law_673 : decode code 673 = .ok (.iconst 1, 1) := by decide +kernel
theorem dL_law_674 : decode code 674 = .ok (.iadd, 1) := by decide +kernel
theorem dL_law_675 : decode code 675 = .ok (.iaload, 1) := by decide +kernel
theorem dL_law_676 : decode code 676 = .ok (.aload_n 0, 1) := by decide +kernel
theorem dL_law_677 : decode code 677 = .ok (.iload_n 3, 1) := by decide +kernel
theorem dL_law_678 : decode code 678 = .ok (.iconst 2, 1) := by decide +kernel
theorem dL_law_679 : decode code 679 = .ok (.iadd, 1) := by decide +kernel
theorem dL_law_680 : decode code 680 = .ok (.iaload, 1) := by decide +kernel
theorem dL_law_681 : decode code 681 = .ok (.aload_n 0, 1) := by decide +kernel
theorem dL_law_682 : decode code 682 = .ok (.iload_n 3, 1) := by decide +kernel
theorem dL_law_683 : decode code 683 = .ok (.iconst 3, 1) := by decide +kernel
theorem dL_law_684 : decode code 684 = .ok (.iadd, 1) := by decide +kernel
theorem dL_law_685 : decode code 685 = .ok (.iaload, 1) := by decide +kernel
theorem dL_law_686 : decode code 686 = .ok (.invokevirtual 66, 3) := by decide +kernel
theorem dL_law_689 : decode code 689 = .ok (.aload_n 2, 1) := by decide +kernel
theorem dL_law_690 : decode code 690 = .ok (.aload_n 0, 1) := by decide +kernel
theorem dL_law_691 : decode code 691 = .ok (.iload_n 3, 1) := by decide +kernel
theorem dL_law_692 : decode code 692 = .ok (.iconst 1, 1) := by decide +kernel
theorem dL_law_693 : decode code 693 = .ok (.iadd, 1) := by decide +kernel
theorem dL_law_694 : decode code 694 = .ok (.iaload, 1) := by decide +kernel
theorem dL_law_695 : decode code 695 = .ok (.aload_n 0, 1) := by decide +kernel
theorem dL_law_696 : decode code 696 = .ok (.iload_n 3, 1) := by decide +kernel
theorem dL_law_697 : decode code 697 = .ok (.iconst 2, 1) := by decide +kernel
theorem dL_law_698 : decode code 698 = .ok (.iadd, 1) := by decide +kernel
theorem dL_law_699 : decode code 699 = .ok (.iaload, 1) := by decide +kernel
theorem dL_law_700 : decode code 700 = .ok (.aload_n 0, 1) := by decide +kernel
theorem dL_law_701 : decode code 701 = .ok (.iload_n 3, 1) := by decide +kernel
theorem dL_law_702 : decode code 702 = .ok (.iconst 3, 1) := by decide +kernel
theorem dL_law_703 : decode code 703 = .ok (.iadd, 1) := by decide +kernel
theorem dL_law_704 : decode code 704 = .ok (.iaload, 1) := by decide +kernel
theorem dL_law_705 : decode code 705 = .ok (.invokevirtual 69, 3) := by decide +kernel
theorem dL_law_708 : decode code 708 = .ok (.if_icmp .eq 1453, 3) := by decide +kernel
theorem dL_law_711 : decode code 711 = .ok (.iconst 0, 1) := by decide +kernel
theorem dL_law_712 : decode code 712 = .ok (.ireturn, 1) := by decide +kernel
theorem dL_law_713 : decode code 713 = .ok (.aload_n 1, 1) := by decide +kernel
theorem dL_law_714 : decode code 714 = .ok (.aload_n 0, 1) := by decide +kernel
theorem dL_law_715 : decode code 715 = .ok (.iload_n 3, 1) := by decide +kernel
theorem dL_law_716 : decode code 716 = .ok (.iconst 1, 1) := by decide +kernel
theorem dL_law_717 : decode code 717 = .ok (.iadd, 1) := by decide +kernel
theorem dL_law_718 : decode code 718 = .ok (.iaload, 1) := by decide +kernel
theorem dL_law_719 : decode code 719 = .ok (.aload_n 0, 1) := by decide +kernel
theorem dL_law_720 : decode code 720 = .ok (.iload_n 3, 1) := by decide +kernel
theorem dL_law_721 : decode code 721 = .ok (.iconst 2, 1) := by decide +kernel
theorem dL_law_722 : decode code 722 = .ok (.iadd, 1) := by decide +kernel
theorem dL_law_723 : decode code 723 = .ok (.iaload, 1) := by decide +kernel
theorem dL_law_724 : decode code 724 = .ok (.aload_n 0, 1) := by decide +kernel
theorem dL_law_725 : decode code 725 = .ok (.iload_n 3, 1) := by decide +kernel
theorem dL_law_726 : decode code 726 = .ok (.iconst 3, 1) := by decide +kernel
theorem dL_law_727 : decode code 727 = .ok (.iadd, 1) := by decide +kernel
theorem dL_law_728 : decode code 728 = .ok (.iaload, 1) := by decide +kernel
theorem dL_law_729 : decode code 729 = .ok (.invokevirtual 70, 3) := by decide +kernel
theorem dL_law_732 : decode code 732 = .ok (.aload_n 2, 1) := by decide +kernel
theorem dL_law_733 : decode code 733 = .ok (.aload_n 0, 1) := by decide +kernel
theorem dL_law_734 : decode code 734 = .ok (.iload_n 3, 1) := by decide +kernel
theorem dL_law_735 : decode code 735 = .ok (.iconst 1, 1) := by decide +kernel
theorem dL_law_736 : decode code 736 = .ok (.iadd, 1) := by decide +kernel
theorem dL_law_737 : decode code 737 = .ok (.iaload, 1) := by decide +kernel
theorem dL_law_738 : decode code 738 = .ok (.aload_n 0, 1) := by decide +kernel
theorem dL_law_739 : decode code 739 = .ok (.iload_n 3, 1) := by decide +kernel
theorem dL_law_740 : decode code 740 = .ok (.iconst 2, 1) := by decide +kernel
theorem dL_law_741 : decode code 741 = .ok (.iadd, 1) := by decide +kernel
theorem dL_law_742 : decode code 742 = .ok (.iaload, 1) := by decide +kernel
theorem dL_law_743 : decode code 743 = .ok (.aload_n 0, 1) := by decide +kernel
theorem dL_law_744 : decode code 744 = .ok (.iload_n 3, 1) := by decide +kernel
theorem dL_law_745 : decode code 745 = .ok (.iconst 3, 1) := by decide +kernel
theorem dL_law_746 : decode code 746 = .ok (.iadd, 1) := by decide +kernel
theorem dL_law_747 : decode code 747 = .ok (.iaload, 1) := by decide +kernel
theorem dL_law_748 : decode code 748 = .ok (.invokevirtual 73, 3) := by decide +kernel
theorem dL_law_751 : decode code 751 = .ok (.if_icmp .eq 1410, 3) := by decide +kernel
theorem dL_law_754 : decode code 754 = .ok (.iconst 0, 1) := by decide +kernel
theorem dL_law_755 : decode code 755 = .ok (.ireturn, 1) := by decide +kernel
theorem dL_law_756 : decode code 756 = .ok (.aload_n 1, 1) := by decide +kernel
theorem dL_law_757 : decode code 757 = .ok (.aload_n 0, 1) := by decide +kernel
theorem dL_law_758 : decode code 758 = .ok (.iload_n 3, 1) := by decide +kernel
theorem dL_law_759 : decode code 759 = .ok (.iconst 1, 1) := by decide +kernel
theorem dL_law_760 : decode code 760 = .ok (.iadd, 1) := by decide +kernel
theorem dL_law_761 : decode code 761 = .ok (.iaload, 1) := by decide +kernel
theorem dL_law_762 : decode code 762 = .ok (.aload_n 0, 1) := by decide +kernel
theorem dL_law_763 : decode code 763 = .ok (.iload_n 3, 1) := by decide +kernel
theorem dL_law_764 : decode code 764 = .ok (.iconst 2, 1) := by decide +kernel
theorem dL_law_765 : decode code 765 = .ok (.iadd, 1) := by decide +kernel
theorem dL_law_766 : decode code 766 = .ok (.iaload, 1) := by decide +kernel
theorem dL_law_767 : decode code 767 = .ok (.invokevirtual 74, 3) := by decide +kernel
theorem dL_law_770 : decode code 770 = .ok (.aload_n 2, 1) := by decide +kernel
theorem dL_law_771 : decode code 771 = .ok (.aload_n 0, 1) := by decide +kernel
theorem dL_law_772 : decode code 772 = .ok (.iload_n 3, 1) := by decide +kernel
theorem dL_law_773 : decode code 773 = .ok (.iconst 1, 1) := by decide +kernel
theorem dL_law_774 : decode code 774 = .ok (.iadd, 1) := by decide +kernel
theorem dL_law_775 : decode code 775 = .ok (.iaload, 1) := by decide +kernel
theorem dL_law_776 : decode code 776 = .ok (.aload_n 0, 1) := by decide +kernel
theorem dL_law_777 : decode code 777 = .ok (.iload_n 3, 1) := by decide +kernel
theorem dL_law_778 : decode code 778 = .ok (.iconst 2, 1) := by decide +kernel
theorem dL_law_779 : decode code 779 = .ok (.iadd, 1) := by decide +kernel
theorem dL_law_780 : decode code 780 = .ok (.iaload, 1) := by decide +kernel
theorem dL_law_781 : decode code 781 = .ok (.invokevirtual 77, 3) := by decide +kernel
theorem dL_law_784 : decode code 784 = .ok (.if_icmp .eq 1377, 3) := by decide +kernel
theorem dL_law_787 : decode code 787 = .ok (.iconst 0, 1) := by decide +kernel
theorem dL_law_788 : decode code 788 = .ok (.ireturn, 1) := by decide +kernel
theorem dL_law_789 : decode code 789 = .ok (.aload_n 1, 1) := by decide +kernel
theorem dL_law_790 : decode code 790 = .ok (.aload_n 0, 1) := by decide +kernel
theorem dL_law_791 : decode code 791 = .ok (.iload_n 3, 1) := by decide +kernel
theorem dL_law_792 : decode code 792 = .ok (.iconst 1, 1) := by decide +kernel
theorem dL_law_793 : decode code 793 = .ok (.iadd, 1) := by decide +kernel
theorem dL_law_794 : decode code 794 = .ok (.iaload, 1) := by decide +kernel
theorem dL_law_795 : decode code 795 = .ok (.aload_n 0, 1) := by decide +kernel
theorem dL_law_796 : decode code 796 = .ok (.iload_n 3, 1) := by decide +kernel
theorem dL_law_797 : decode code 797 = .ok (.iconst 2, 1) := by decide +kernel
theorem dL_law_798 : decode code 798 = .ok (.iadd, 1) := by decide +kernel
theorem dL_law_799 : decode code 799 = .ok (.iaload, 1) := by decide +kernel
theorem dL_law_800 : decode code 800 = .ok (.aload_n 0, 1) := by decide +kernel
theorem dL_law_801 : decode code 801 = .ok (.iload_n 3, 1) := by decide +kernel
theorem dL_law_802 : decode code 802 = .ok (.iconst 3, 1) := by decide +kernel
theorem dL_law_803 : decode code 803 = .ok (.iadd, 1) := by decide +kernel
theorem dL_law_804 : decode code 804 = .ok (.iaload, 1) := by decide +kernel
theorem dL_law_805 : decode code 805 = .ok (.invokevirtual 78, 3) := by decide +kernel
theorem dL_law_808 : decode code 808 = .ok (.aload_n 2, 1) := by decide +kernel
theorem dL_law_809 : decode code 809 = .ok (.aload_n 0, 1) := by decide +kernel
theorem dL_law_810 : decode code 810 = .ok (.iload_n 3, 1) := by decide +kernel
theorem dL_law_811 : decode code 811 = .ok (.iconst 1, 1) := by decide +kernel
theorem dL_law_812 : decode code 812 = .ok (.iadd, 1) := by decide +kernel
theorem dL_law_813 : decode code 813 = .ok (.iaload, 1) := by decide +kernel
theorem dL_law_814 : decode code 814 = .ok (.aload_n 0, 1) := by decide +kernel
theorem dL_law_815 : decode code 815 = .ok (.iload_n 3, 1) := by decide +kernel
theorem dL_law_816 : decode code 816 = .ok (.iconst 2, 1) := by decide +kernel
theorem dL_law_817 : decode code 817 = .ok (.iadd, 1) := by decide +kernel
theorem dL_law_818 : decode code 818 = .ok (.iaload, 1) := by decide +kernel
theorem dL_law_819 : decode code 819 = .ok (.aload_n 0, 1) := by decide +kernel
theorem dL_law_820 : decode code 820 = .ok (.iload_n 3, 1) := by decide +kernel
theorem dL_law_821 : decode code 821 = .ok (.iconst 3, 1) := by decide +kernel
theorem dL_law_822 : decode code 822 = .ok (.iadd, 1) := by decide +kernel
theorem dL_law_823 : decode code 823 = .ok (.iaload, 1) := by decide +kernel
theorem dL_law_824 : decode code 824 = .ok (.invokevirtual 81, 3) := by decide +kernel
theorem dL_law_827 : decode code 827 = .ok (.if_icmp .eq 1334, 3) := by decide +kernel
theorem dL_law_830 : decode code 830 = .ok (.iconst 0, 1) := by decide +kernel
theorem dL_law_831 : decode code 831 = .ok (.ireturn, 1) := by decide +kernel
theorem dL_law_832 : decode code 832 = .ok (.aload_n 1, 1) := by decide +kernel
theorem dL_law_833 : decode code 833 = .ok (.aload_n 0, 1) := by decide +kernel
theorem dL_law_834 : decode code 834 = .ok (.iload_n 3, 1) := by decide +kernel
theorem dL_law_835 : decode code 835 = .ok (.iconst 1, 1) := by decide +kernel
theorem dL_law_836 : decode code 836 = .ok (.iadd, 1) := by decide +kernel
theorem dL_law_837 : decode code 837 = .ok (.iaload, 1) := by decide +kernel
theorem dL_law_838 : decode code 838 = .ok (.invokevirtual 82, 3) := by decide +kernel
theorem dL_law_841 : decode code 841 = .ok (.aload_n 2, 1) := by decide +kernel
theorem dL_law_842 : decode code 842 = .ok (.aload_n 0, 1) := by decide +kernel
theorem dL_law_843 : decode code 843 = .ok (.iload_n 3, 1) := by decide +kernel
theorem dL_law_844 : decode code 844 = .ok (.iconst 1, 1) := by decide +kernel
theorem dL_law_845 : decode code 845 = .ok (.iadd, 1) := by decide +kernel
theorem dL_law_846 : decode code 846 = .ok (.iaload, 1) := by decide +kernel
theorem dL_law_847 : decode code 847 = .ok (.invokevirtual 85, 3) := by decide +kernel
theorem dL_law_850 : decode code 850 = .ok (.if_icmp .eq 1311, 3) := by decide +kernel
theorem dL_law_853 : decode code 853 = .ok (.iconst 0, 1) := by decide +kernel
theorem dL_law_854 : decode code 854 = .ok (.ireturn, 1) := by decide +kernel
theorem dL_law_855 : decode code 855 = .ok (.aload_n 1, 1) := by decide +kernel
theorem dL_law_856 : decode code 856 = .ok (.aload_n 0, 1) := by decide +kernel
theorem dL_law_857 : decode code 857 = .ok (.iload_n 3, 1) := by decide +kernel
theorem dL_law_858 : decode code 858 = .ok (.iconst 1, 1) := by decide +kernel
theorem dL_law_859 : decode code 859 = .ok (.iadd, 1) := by decide +kernel
theorem dL_law_860 : decode code 860 = .ok (.iaload, 1) := by decide +kernel
theorem dL_law_861 : decode code 861 = .ok (.invokevirtual 86, 3) := by decide +kernel
theorem dL_law_864 : decode code 864 = .ok (.aload_n 2, 1) := by decide +kernel
theorem dL_law_865 : decode code 865 = .ok (.aload_n 0, 1) := by decide +kernel
theorem dL_law_866 : decode code 866 = .ok (.iload_n 3, 1) := by decide +kernel
theorem dL_law_867 : decode code 867 = .ok (.iconst 1, 1) := by decide +kernel
theorem dL_law_868 : decode code 868 = .ok (.iadd, 1) := by decide +kernel
theorem dL_law_869 : decode code 869 = .ok (.iaload, 1) := by decide +kernel
theorem dL_law_870 : decode code 870 = .ok (.invokevirtual 89, 3) := by decide +kernel
theorem dL_law_873 : decode code 873 = .ok (.if_icmp .eq 1288, 3) := by decide +kernel
theorem dL_law_876 : decode code 876 = .ok (.iconst 0, 1) := by decide +kernel
theorem dL_law_877 : decode code 877 = .ok (.ireturn, 1) := by decide +kernel
theorem dL_law_878 : decode code 878 = .ok (.aload_n 1, 1) := by decide +kernel
theorem dL_law_879 : decode code 879 = .ok (.aload_n 0, 1) := by decide +kernel
theorem dL_law_880 : decode code 880 = .ok (.iload_n 3, 1) := by decide +kernel
theorem dL_law_881 : decode code 881 = .ok (.iconst 1, 1) := by decide +kernel
theorem dL_law_882 : decode code 882 = .ok (.iadd, 1) := by decide +kernel
theorem dL_law_883 : decode code 883 = .ok (.iaload, 1) := by decide +kernel
theorem dL_law_884 : decode code 884 = .ok (.invokevirtual 90, 3) := by decide +kernel
theorem dL_law_887 : decode code 887 = .ok (.aload_n 2, 1) := by decide +kernel
theorem dL_law_888 : decode code 888 = .ok (.aload_n 0, 1) := by decide +kernel
theorem dL_law_889 : decode code 889 = .ok (.iload_n 3, 1) := by decide +kernel
theorem dL_law_890 : decode code 890 = .ok (.iconst 1, 1) := by decide +kernel
theorem dL_law_891 : decode code 891 = .ok (.iadd, 1) := by decide +kernel
theorem dL_law_892 : decode code 892 = .ok (.iaload, 1) := by decide +kernel
theorem dL_law_893 : decode code 893 = .ok (.invokevirtual 93, 3) := by decide +kernel
theorem dL_law_896 : decode code 896 = .ok (.if_icmp .eq 1265, 3) := by decide +kernel
theorem dL_law_899 : decode code 899 = .ok (.iconst 0, 1) := by decide +kernel
theorem dL_law_900 : decode code 900 = .ok (.ireturn, 1) := by decide +kernel
theorem dL_law_901 : decode code 901 = .ok (.aload_n 1, 1) := by decide +kernel
theorem dL_law_902 : decode code 902 = .ok (.aload_n 0, 1) := by decide +kernel
theorem dL_law_903 : decode code 903 = .ok (.iload_n 3, 1) := by decide +kernel
theorem dL_law_904 : decode code 904 = .ok (.iconst 1, 1) := by decide +kernel
theorem dL_law_905 : decode code 905 = .ok (.iadd, 1) := by decide +kernel
theorem dL_law_906 : decode code 906 = .ok (.iaload, 1) := by decide +kernel
theorem dL_law_907 : decode code 907 = .ok (.invokevirtual 94, 3) := by decide +kernel
theorem dL_law_910 : decode code 910 = .ok (.aload_n 2, 1) := by decide +kernel
theorem dL_law_911 : decode code 911 = .ok (.aload_n 0, 1) := by decide +kernel
theorem dL_law_912 : decode code 912 = .ok (.iload_n 3, 1) := by decide +kernel
theorem dL_law_913 : decode code 913 = .ok (.iconst 1, 1) := by decide +kernel
theorem dL_law_914 : decode code 914 = .ok (.iadd, 1) := by decide +kernel
theorem dL_law_915 : decode code 915 = .ok (.iaload, 1) := by decide +kernel
theorem dL_law_916 : decode code 916 = .ok (.invokevirtual 97, 3) := by decide +kernel
theorem dL_law_919 : decode code 919 = .ok (.if_icmp .eq 1242, 3) := by decide +kernel
theorem dL_law_922 : decode code 922 = .ok (.iconst 0, 1) := by decide +kernel
theorem dL_law_923 : decode code 923 = .ok (.ireturn, 1) := by decide +kernel
theorem dL_law_924 : decode code 924 = .ok (.aload_n 1, 1) := by decide +kernel
theorem dL_law_925 : decode code 925 = .ok (.aload_n 0, 1) := by decide +kernel
theorem dL_law_926 : decode code 926 = .ok (.iload_n 3, 1) := by decide +kernel
theorem dL_law_927 : decode code 927 = .ok (.iconst 1, 1) := by decide +kernel
theorem dL_law_928 : decode code 928 = .ok (.iadd, 1) := by decide +kernel
theorem dL_law_929 : decode code 929 = .ok (.iaload, 1) := by decide +kernel
theorem dL_law_930 : decode code 930 = .ok (.invokevirtual 98, 3) := by decide +kernel
theorem dL_law_933 : decode code 933 = .ok (.aload_n 2, 1) := by decide +kernel
theorem dL_law_934 : decode code 934 = .ok (.aload_n 0, 1) := by decide +kernel
theorem dL_law_935 : decode code 935 = .ok (.iload_n 3, 1) := by decide +kernel
theorem dL_law_936 : decode code 936 = .ok (.iconst 1, 1) := by decide +kernel
theorem dL_law_937 : decode code 937 = .ok (.iadd, 1) := by decide +kernel
theorem dL_law_938 : decode code 938 = .ok (.iaload, 1) := by decide +kernel
theorem dL_law_939 : decode code 939 = .ok (.invokevirtual 101, 3) := by decide +kernel
theorem dL_law_942 : decode code 942 = .ok (.if_icmp .eq 1219, 3) := by decide +kernel
theorem dL_law_945 : decode code 945 = .ok (.iconst 0, 1) := by decide +kernel
theorem dL_law_946 : decode code 946 = .ok (.ireturn, 1) := by decide +kernel
theorem dL_law_947 : decode code 947 = .ok (.aload_n 1, 1) := by decide +kernel
theorem dL_law_948 : decode code 948 = .ok (.aload_n 0, 1) := by decide +kernel
theorem dL_law_949 : decode code 949 = .ok (.iload_n 3, 1) := by decide +kernel
theorem dL_law_950 : decode code 950 = .ok (.iconst 1, 1) := by decide +kernel
theorem dL_law_951 : decode code 951 = .ok (.iadd, 1) := by decide +kernel
theorem dL_law_952 : decode code 952 = .ok (.iaload, 1) := by decide +kernel
theorem dL_law_953 : decode code 953 = .ok (.aload_n 0, 1) := by decide +kernel
theorem dL_law_954 : decode code 954 = .ok (.iload_n 3, 1) := by decide +kernel
theorem dL_law_955 : decode code 955 = .ok (.iconst 2, 1) := by decide +kernel
theorem dL_law_956 : decode code 956 = .ok (.iadd, 1) := by decide +kernel
theorem dL_law_957 : decode code 957 = .ok (.iaload, 1) := by decide +kernel
theorem dL_law_958 : decode code 958 = .ok (.invokevirtual 102, 3) := by decide +kernel
theorem dL_law_961 : decode code 961 = .ok (.aload_n 2, 1) := by decide +kernel
theorem dL_law_962 : decode code 962 = .ok (.aload_n 0, 1) := by decide +kernel
theorem dL_law_963 : decode code 963 = .ok (.iload_n 3, 1) := by decide +kernel
theorem dL_law_964 : decode code 964 = .ok (.iconst 1, 1) := by decide +kernel
theorem dL_law_965 : decode code 965 = .ok (.iadd, 1) := by decide +kernel
theorem dL_law_966 : decode code 966 = .ok (.iaload, 1) := by decide +kernel
theorem dL_law_967 : decode code 967 = .ok (.aload_n 0, 1) := by decide +kernel
theorem dL_law_968 : decode code 968 = .ok (.iload_n 3, 1) := by decide +kernel
theorem dL_law_969 : decode code 969 = .ok (.iconst 2, 1) := by decide +kernel
theorem dL_law_970 : decode code 970 = .ok (.iadd, 1) := by decide +kernel
theorem dL_law_971 : decode code 971 = .ok (.iaload, 1) := by decide +kernel
theorem dL_law_972 : decode code 972 = .ok (.invokevirtual 105, 3) := by decide +kernel
theorem dL_law_975 : decode code 975 = .ok (.if_icmp .eq 1186, 3) := by decide +kernel
theorem dL_law_978 : decode code 978 = .ok (.iconst 0, 1) := by decide +kernel
theorem dL_law_979 : decode code 979 = .ok (.ireturn, 1) := by decide +kernel
theorem dL_law_980 : decode code 980 = .ok (.aload_n 1, 1) := by decide +kernel
theorem dL_law_981 : decode code 981 = .ok (.aload_n 0, 1) := by decide +kernel
theorem dL_law_982 : decode code 982 = .ok (.iload_n 3, 1) := by decide +kernel
theorem dL_law_983 : decode code 983 = .ok (.iconst 1, 1) := by decide +kernel
theorem dL_law_984 : decode code 984 = .ok (.iadd, 1) := by decide +kernel
theorem dL_law_985 : decode code 985 = .ok (.iaload, 1) := by decide +kernel
theorem dL_law_986 : decode code 986 = .ok (.aload_n 0, 1) := by decide +kernel
theorem dL_law_987 : decode code 987 = .ok (.iload_n 3, 1) := by decide +kernel
theorem dL_law_988 : decode code 988 = .ok (.iconst 2, 1) := by decide +kernel
theorem dL_law_989 : decode code 989 = .ok (.iadd, 1) := by decide +kernel
theorem dL_law_990 : decode code 990 = .ok (.iaload, 1) := by decide +kernel
theorem dL_law_991 : decode code 991 = .ok (.invokevirtual 106, 3) := by decide +kernel
theorem dL_law_994 : decode code 994 = .ok (.aload_n 2, 1) := by decide +kernel
theorem dL_law_995 : decode code 995 = .ok (.aload_n 0, 1) := by decide +kernel
theorem dL_law_996 : decode code 996 = .ok (.iload_n 3, 1) := by decide +kernel
theorem dL_law_997 : decode code 997 = .ok (.iconst 1, 1) := by decide +kernel
theorem dL_law_998 : decode code 998 = .ok (.iadd, 1) := by decide +kernel
theorem dL_law_999 : decode code 999 = .ok (.iaload, 1) := by decide +kernel
theorem dL_law_1000 : decode code 1000 = .ok (.aload_n 0, 1) := by decide +kernel
theorem dL_law_1001 : decode code 1001 = .ok (.iload_n 3, 1) := by decide +kernel
theorem dL_law_1002 : decode code 1002 = .ok (.iconst 2, 1) := by decide +kernel
theorem dL_law_1003 : decode code 1003 = .ok (.iadd, 1) := by decide +kernel
theorem dL_law_1004 : decode code 1004 = .ok (.iaload, 1) := by decide +kernel
theorem dL_law_1005 : decode code 1005 = .ok (.invokevirtual 109, 3) := by decide +kernel
theorem dL_law_1008 : decode code 1008 = .ok (.if_icmp .eq 1153, 3) := by decide +kernel
theorem dL_law_1011 : decode code 1011 = .ok (.iconst 0, 1) := by decide +kernel
theorem dL_law_1012 : decode code 1012 = .ok (.ireturn, 1) := by decide +kernel
theorem dL_law_1013 : decode code 1013 = .ok (.aload_n 1, 1) := by decide +kernel
theorem dL_law_1014 : decode code 1014 = .ok (.invokevirtual 110, 3) := by decide +kernel
theorem dL_law_1017 : decode code 1017 = .ok (.aload_n 2, 1) := by decide +kernel
theorem dL_law_1018 : decode code 1018 = .ok (.invokevirtual 113, 3) := by decide +kernel
theorem dL_law_1021 : decode code 1021 = .ok (.if_icmp .eq 1140, 3) := by decide +kernel
theorem dL_law_1024 : decode code 1024 = .ok (.iconst 0, 1) := by decide +kernel
theorem dL_law_1025 : decode code 1025 = .ok (.ireturn, 1) := by decide +kernel
theorem dL_law_1026 : decode code 1026 = .ok (.aload_n 1, 1) := by decide +kernel
theorem dL_law_1027 : decode code 1027 = .ok (.aload_n 0, 1) := by decide +kernel
theorem dL_law_1028 : decode code 1028 = .ok (.iload_n 3, 1) := by decide +kernel
theorem dL_law_1029 : decode code 1029 = .ok (.iconst 1, 1) := by decide +kernel
theorem dL_law_1030 : decode code 1030 = .ok (.iadd, 1) := by decide +kernel
theorem dL_law_1031 : decode code 1031 = .ok (.iaload, 1) := by decide +kernel
theorem dL_law_1032 : decode code 1032 = .ok (.invokevirtual 114, 3) := by decide +kernel
theorem dL_law_1035 : decode code 1035 = .ok (.aload_n 2, 1) := by decide +kernel
theorem dL_law_1036 : decode code 1036 = .ok (.aload_n 0, 1) := by decide +kernel
theorem dL_law_1037 : decode code 1037 = .ok (.iload_n 3, 1) := by decide +kernel
theorem dL_law_1038 : decode code 1038 = .ok (.iconst 1, 1) := by decide +kernel
theorem dL_law_1039 : decode code 1039 = .ok (.iadd, 1) := by decide +kernel
theorem dL_law_1040 : decode code 1040 = .ok (.iaload, 1) := by decide +kernel
theorem dL_law_1041 : decode code 1041 = .ok (.invokevirtual 117, 3) := by decide +kernel
theorem dL_law_1044 : decode code 1044 = .ok (.if_icmp .eq 1117, 3) := by decide +kernel
theorem dL_law_1047 : decode code 1047 = .ok (.iconst 0, 1) := by decide +kernel
theorem dL_law_1048 : decode code 1048 = .ok (.ireturn, 1) := by decide +kernel
theorem dL_law_1049 : decode code 1049 = .ok (.aload_n 1, 1) := by decide +kernel
theorem dL_law_1050 : decode code 1050 = .ok (.aload_n 0, 1) := by decide +kernel
theorem dL_law_1051 : decode code 1051 = .ok (.iload_n 3, 1) := by decide +kernel
theorem dL_law_1052 : decode code 1052 = .ok (.iconst 1, 1) := by decide +kernel
theorem dL_law_1053 : decode code 1053 = .ok (.iadd, 1) := by decide +kernel
theorem dL_law_1054 : decode code 1054 = .ok (.iaload, 1) := by decide +kernel
theorem dL_law_1055 : decode code 1055 = .ok (.aload_n 0, 1) := by decide +kernel
theorem dL_law_1056 : decode code 1056 = .ok (.iload_n 3, 1) := by decide +kernel
theorem dL_law_1057 : decode code 1057 = .ok (.iconst 2, 1) := by decide +kernel
theorem dL_law_1058 : decode code 1058 = .ok (.iadd, 1) := by decide +kernel
theorem dL_law_1059 : decode code 1059 = .ok (.iaload, 1) := by decide +kernel
theorem dL_law_1060 : decode code 1060 = .ok (.invokevirtual 118, 3) := by decide +kernel
theorem dL_law_1063 : decode code 1063 = .ok (.aload_n 2, 1) := by decide +kernel
theorem dL_law_1064 : decode code 1064 = .ok (.aload_n 0, 1) := by decide +kernel
theorem dL_law_1065 : decode code 1065 = .ok (.iload_n 3, 1) := by decide +kernel
theorem dL_law_1066 : decode code 1066 = .ok (.iconst 1, 1) := by decide +kernel
theorem dL_law_1067 : decode code 1067 = .ok (.iadd, 1) := by decide +kernel
theorem dL_law_1068 : decode code 1068 = .ok (.iaload, 1) := by decide +kernel
theorem dL_law_1069 : decode code 1069 = .ok (.aload_n 0, 1) := by decide +kernel
theorem dL_law_1070 : decode code 1070 = .ok (.iload_n 3, 1) := by decide +kernel
theorem dL_law_1071 : decode code 1071 = .ok (.iconst 2, 1) := by decide +kernel
theorem dL_law_1072 : decode code 1072 = .ok (.iadd, 1) := by decide +kernel
theorem dL_law_1073 : decode code 1073 = .ok (.iaload, 1) := by decide +kernel
theorem dL_law_1074 : decode code 1074 = .ok (.invokevirtual 121, 3) := by decide +kernel
theorem dL_law_1077 : decode code 1077 = .ok (.if_icmp .eq 1084, 3) := by decide +kernel
theorem dL_law_1080 : decode code 1080 = .ok (.iconst 0, 1) := by decide +kernel
theorem dL_law_1081 : decode code 1081 = .ok (.ireturn, 1) := by decide +kernel
theorem dL_law_1082 : decode code 1082 = .ok (.aload_n 1, 1) := by decide +kernel
theorem dL_law_1083 : decode code 1083 = .ok (.aload_n 0, 1) := by decide +kernel
theorem dL_law_1084 : decode code 1084 = .ok (.iload_n 3, 1) := by decide +kernel
theorem dL_law_1085 : decode code 1085 = .ok (.iconst 1, 1) := by decide +kernel
theorem dL_law_1086 : decode code 1086 = .ok (.iadd, 1) := by decide +kernel
theorem dL_law_1087 : decode code 1087 = .ok (.iaload, 1) := by decide +kernel
theorem dL_law_1088 : decode code 1088 = .ok (.aload_n 0, 1) := by decide +kernel
theorem dL_law_1089 : decode code 1089 = .ok (.iload_n 3, 1) := by decide +kernel
theorem dL_law_1090 : decode code 1090 = .ok (.iconst 2, 1) := by decide +kernel
theorem dL_law_1091 : decode code 1091 = .ok (.iadd, 1) := by decide +kernel
theorem dL_law_1092 : decode code 1092 = .ok (.iaload, 1) := by decide +kernel
theorem dL_law_1093 : decode code 1093 = .ok (.invokevirtual 122, 3) := by decide +kernel
theorem dL_law_1096 : decode code 1096 = .ok (.aload_n 2, 1) := by decide +kernel
theorem dL_law_1097 : decode code 1097 = .ok (.aload_n 0, 1) := by decide +kernel
theorem dL_law_1098 : decode code 1098 = .ok (.iload_n 3, 1) := by decide +kernel
theorem dL_law_1099 : decode code 1099 = .ok (.iconst 1, 1) := by decide +kernel
theorem dL_law_1100 : decode code 1100 = .ok (.iadd, 1) := by decide +kernel
theorem dL_law_1101 : decode code 1101 = .ok (.iaload, 1) := by decide +kernel
theorem dL_law_1102 : decode code 1102 = .ok (.aload_n 0, 1) := by decide +kernel
theorem dL_law_1103 : decode code 1103 = .ok (.iload_n 3, 1) := by decide +kernel
theorem dL_law_1104 : decode code 1104 = .ok (.iconst 2, 1) := by decide +kernel
theorem dL_law_1105 : decode code 1105 = .ok (.iadd, 1) := by decide +kernel
theorem dL_law_1106 : decode code 1106 = .ok (.iaload, 1) := by decide +kernel
theorem dL_law_1107 : decode code 1107 = .ok (.invokevirtual 125, 3) := by decide +kernel
theorem dL_law_1110 : decode code 1110 = .ok (.if_icmp .eq 1051, 3) := by decide +kernel
theorem dL_law_1113 : decode code 1113 = .ok (.iconst 0, 1) := by decide +kernel
theorem dL_law_1114 : decode code 1114 = .ok (.ireturn, 1) := by decide +kernel
theorem dL_law_1115 : decode code 1115 = .ok (.aload_n 1, 1) := by decide +kernel
theorem dL_law_1116 : decode code 1116 = .ok (.aload_n 0, 1) := by decide +kernel
theorem dL_law_1117 : decode code 1117 = .ok (.iload_n 3, 1) := by decide +kernel
theorem dL_law_1118 : decode code 1118 = .ok (.iconst 1, 1) := by decide +kernel
theorem dL_law_1119 : decode code 1119 = .ok (.iadd, 1) := by decide +kernel
theorem dL_law_1120 : decode code 1120 = .ok (.iaload, 1) := by decide +kernel
theorem dL_law_1121 : decode code 1121 = .ok (.aload_n 0, 1) := by decide +kernel
theorem dL_law_1122 : decode code 1122 = .ok (.iload_n 3, 1) := by decide +kernel
theorem dL_law_1123 : decode code 1123 = .ok (.iconst 2, 1) := by decide +kernel
theorem dL_law_1124 : decode code 1124 = .ok (.iadd, 1) := by decide +kernel
theorem dL_law_1125 : decode code 1125 = .ok (.iaload, 1) := by decide +kernel
theorem dL_law_1126 : decode code 1126 = .ok (.invokevirtual 126, 3) := by decide +kernel
theorem dL_law_1129 : decode code 1129 = .ok (.aload_n 2, 1) := by decide +kernel
theorem dL_law_1130 : decode code 1130 = .ok (.aload_n 0, 1) := by decide +kernel
theorem dL_law_1131 : decode code 1131 = .ok (.iload_n 3, 1) := by decide +kernel
theorem dL_law_1132 : decode code 1132 = .ok (.iconst 1, 1) := by decide +kernel
theorem dL_law_1133 : decode code 1133 = .ok (.iadd, 1) := by decide +kernel
theorem dL_law_1134 : decode code 1134 = .ok (.iaload, 1) := by decide +kernel
theorem dL_law_1135 : decode code 1135 = .ok (.aload_n 0, 1) := by decide +kernel
theorem dL_law_1136 : decode code 1136 = .ok (.iload_n 3, 1) := by decide +kernel
theorem dL_law_1137 : decode code 1137 = .ok (.iconst 2, 1) := by decide +kernel
theorem dL_law_1138 : decode code 1138 = .ok (.iadd, 1) := by decide +kernel
theorem dL_law_1139 : decode code 1139 = .ok (.iaload, 1) := by decide +kernel
theorem dL_law_1140 : decode code 1140 = .ok (.invokevirtual 129, 3) := by decide +kernel
theorem dL_law_1143 : decode code 1143 = .ok (.if_icmp .eq 1018, 3) := by decide +kernel
theorem dL_law_1146 : decode code 1146 = .ok (.iconst 0, 1) := by decide +kernel
theorem dL_law_1147 : decode code 1147 = .ok (.ireturn, 1) := by decide +kernel
theorem dL_law_1148 : decode code 1148 = .ok (.aload_n 1, 1) := by decide +kernel
theorem dL_law_1149 : decode code 1149 = .ok (.aload_n 0, 1) := by decide +kernel
theorem dL_law_1150 : decode code 1150 = .ok (.iload_n 3, 1) := by decide +kernel
theorem dL_law_1151 : decode code 1151 = .ok (.iconst 1, 1) := by decide +kernel
theorem dL_law_1152 : decode code 1152 = .ok (.iadd, 1) := by decide +kernel
theorem dL_law_1153 : decode code 1153 = .ok (.iaload, 1) := by decide +kernel
theorem dL_law_1154 : decode code 1154 = .ok (.invokevirtual 130, 3) := by decide +kernel
theorem dL_law_1157 : decode code 1157 = .ok (.aload_n 2, 1) := by decide +kernel
theorem dL_law_1158 : decode code 1158 = .ok (.aload_n 0, 1) := by decide +kernel
theorem dL_law_1159 : decode code 1159 = .ok (.iload_n 3, 1) := by decide +kernel
theorem dL_law_1160 : decode code 1160 = .ok (.iconst 1, 1) := by decide +kernel
theorem dL_law_1161 : decode code 1161 = .ok (.iadd, 1) := by decide +kernel
theorem dL_law_1162 : decode code 1162 = .ok (.iaload, 1) := by decide +kernel
theorem dL_law_1163 : decode code 1163 = .ok (.invokevirtual 133, 3) := by decide +kernel
theorem dL_law_1166 : decode code 1166 = .ok (.if_icmp .eq 995, 3) := by decide +kernel
theorem dL_law_1169 : decode code 1169 = .ok (.iconst 0, 1) := by decide +kernel
theorem dL_law_1170 : decode code 1170 = .ok (.ireturn, 1) := by decide +kernel
theorem dL_law_1171 : decode code 1171 = .ok (.aload_n 1, 1) := by decide +kernel
theorem dL_law_1172 : decode code 1172 = .ok (.aload_n 0, 1) := by decide +kernel
theorem dL_law_1173 : decode code 1173 = .ok (.iload_n 3, 1) := by decide +kernel
theorem dL_law_1174 : decode code 1174 = .ok (.iconst 1, 1) := by decide +kernel
theorem dL_law_1175 : decode code 1175 = .ok (.iadd, 1) := by decide +kernel
theorem dL_law_1176 : decode code 1176 = .ok (.iaload, 1) := by decide +kernel
theorem dL_law_1177 : decode code 1177 = .ok (.invokevirtual 134, 3) := by decide +kernel
theorem dL_law_1180 : decode code 1180 = .ok (.aload_n 2, 1) := by decide +kernel
theorem dL_law_1181 : decode code 1181 = .ok (.aload_n 0, 1) := by decide +kernel
theorem dL_law_1182 : decode code 1182 = .ok (.iload_n 3, 1) := by decide +kernel
theorem dL_law_1183 : decode code 1183 = .ok (.iconst 1, 1) := by decide +kernel
theorem dL_law_1184 : decode code 1184 = .ok (.iadd, 1) := by decide +kernel
theorem dL_law_1185 : decode code 1185 = .ok (.iaload, 1) := by decide +kernel
theorem dL_law_1186 : decode code 1186 = .ok (.invokevirtual 137, 3) := by decide +kernel
theorem dL_law_1189 : decode code 1189 = .ok (.if_icmp .eq 972, 3) := by decide +kernel
theorem dL_law_1192 : decode code 1192 = .ok (.iconst 0, 1) := by decide +kernel
theorem dL_law_1193 : decode code 1193 = .ok (.ireturn, 1) := by decide +kernel
theorem dL_law_1194 : decode code 1194 = .ok (.aload_n 1, 1) := by decide +kernel
theorem dL_law_1195 : decode code 1195 = .ok (.aload_n 0, 1) := by decide +kernel
theorem dL_law_1196 : decode code 1196 = .ok (.iload_n 3, 1) := by decide +kernel
theorem dL_law_1197 : decode code 1197 = .ok (.iconst 1, 1) := by decide +kernel
theorem dL_law_1198 : decode code 1198 = .ok (.iadd, 1) := by decide +kernel
theorem dL_law_1199 : decode code 1199 = .ok (.iaload, 1) := by decide +kernel
theorem dL_law_1200 : decode code 1200 = .ok (.aload_n 0, 1) := by decide +kernel
theorem dL_law_1201 : decode code 1201 = .ok (.iload_n 3, 1) := by decide +kernel
theorem dL_law_1202 : decode code 1202 = .ok (.iconst 2, 1) := by decide +kernel
theorem dL_law_1203 : decode code 1203 = .ok (.iadd, 1) := by decide +kernel
theorem dL_law_1204 : decode code 1204 = .ok (.iaload, 1) := by decide +kernel
theorem dL_law_1205 : decode code 1205 = .ok (.aload_n 0, 1) := by decide +kernel
theorem dL_law_1206 : decode code 1206 = .ok (.iload_n 3, 1) := by decide +kernel
theorem dL_law_1207 : decode code 1207 = .ok (.iconst 3, 1) := by decide +kernel
theorem dL_law_1208 : decode code 1208 = .ok (.iadd, 1) := by decide +kernel
theorem dL_law_1209 : decode code 1209 = .ok (.iaload, 1) := by decide +kernel
theorem dL_law_1210 : decode code 1210 = .ok (.invokevirtual 138, 3) := by decide +kernel
theorem dL_law_1213 : decode code 1213 = .ok (.aload_n 2, 1) := by decide +kernel
theorem dL_law_1214 : decode code 1214 = .ok (.aload_n 0, 1) := by decide +kernel
theorem dL_law_1215 : decode code 1215 = .ok (.iload_n 3, 1) := by decide +kernel
theorem dL_law_1216 : decode code 1216 = .ok (.iconst 1, 1) := by decide +kernel
theorem dL_law_1217 : decode code 1217 = .ok (.iadd, 1) := by decide +kernel
theorem dL_law_1218 : decode code 1218 = .ok (.iaload, 1) := by decide +kernel
theorem dL_law_1219 : decode code 1219 = .ok (.aload_n 0, 1) := by decide +kernel
theorem dL_law_1220 : decode code 1220 = .ok (.iload_n 3, 1) := by decide +kernel
theorem dL_law_1221 : decode code 1221 = .ok (.iconst 2, 1) := by decide +kernel
theorem dL_law_1222 : decode code 1222 = .ok (.iadd, 1) := by decide +kernel
theorem dL_law_1223 : decode code 1223 = .ok (.iaload, 1) := by decide +kernel
theorem dL_law_1224 : decode code 1224 = .ok (.aload_n 0, 1) := by decide +kernel
theorem dL_law_1225 : decode code 1225 = .ok (.iload_n 3, 1) := by decide +kernel
theorem dL_law_1226 : decode code 1226 = .ok (.iconst 3, 1) := by decide +kernel
theorem dL_law_1227 : decode code 1227 = .ok (.iadd, 1) := by decide +kernel
theorem dL_law_1228 : decode code 1228 = .ok (.iaload, 1) := by decide +kernel
theorem dL_law_1229 : decode code 1229 = .ok (.invokevirtual 141, 3) := by decide +kernel
theorem dL_law_1232 : decode code 1232 = .ok (.if_icmp .eq 929, 3) := by decide +kernel
theorem dL_law_1235 : decode code 1235 = .ok (.iconst 0, 1) := by decide +kernel
theorem dL_law_1236 : decode code 1236 = .ok (.ireturn, 1) := by decide +kernel
theorem dL_law_1237 : decode code 1237 = .ok (.aload_n 1, 1) := by decide +kernel
theorem dL_law_1238 : decode code 1238 = .ok (.aload_n 0, 1) := by decide +kernel
theorem dL_law_1239 : decode code 1239 = .ok (.iload_n 3, 1) := by decide +kernel
theorem dL_law_1240 : decode code 1240 = .ok (.iconst 1, 1) := by decide +kernel
theorem dL_law_1241 : decode code 1241 = .ok (.iadd, 1) := by decide +kernel
theorem dL_law_1242 : decode code 1242 = .ok (.iaload, 1) := by decide +kernel
theorem dL_law_1243 : decode code 1243 = .ok (.aload_n 0, 1) := by decide +kernel
theorem dL_law_1244 : decode code 1244 = .ok (.iload_n 3, 1) := by decide +kernel
theorem dL_law_1245 : decode code 1245 = .ok (.iconst 2, 1) := by decide +kernel
theorem dL_law_1246 : decode code 1246 = .ok (.iadd, 1) := by decide +kernel
theorem dL_law_1247 : decode code 1247 = .ok (.iaload, 1) := by decide +kernel
theorem dL_law_1248 : decode code 1248 = .ok (.aload_n 0, 1) := by decide +kernel
theorem dL_law_1249 : decode code 1249 = .ok (.iload_n 3, 1) := by decide +kernel
theorem dL_law_1250 : decode code 1250 = .ok (.iconst 3, 1) := by decide +kernel
theorem dL_law_1251 : decode code 1251 = .ok (.iadd, 1) := by decide +kernel
theorem dL_law_1252 : decode code 1252 = .ok (.iaload, 1) := by decide +kernel
theorem dL_law_1253 : decode code 1253 = .ok (.aload_n 0, 1) := by decide +kernel
theorem dL_law_1254 : decode code 1254 = .ok (.iload_n 3, 1) := by decide +kernel
theorem dL_law_1255 : decode code 1255 = .ok (.iconst 4, 1) := by decide +kernel
theorem dL_law_1256 : decode code 1256 = .ok (.iadd, 1) := by decide +kernel
theorem dL_law_1257 : decode code 1257 = .ok (.iaload, 1) := by decide +kernel
theorem dL_law_1258 : decode code 1258 = .ok (.invokevirtual 142, 3) := by decide +kernel
theorem dL_law_1261 : decode code 1261 = .ok (.aload_n 2, 1) := by decide +kernel
theorem dL_law_1262 : decode code 1262 = .ok (.aload_n 0, 1) := by decide +kernel
theorem dL_law_1263 : decode code 1263 = .ok (.iload_n 3, 1) := by decide +kernel
theorem dL_law_1264 : decode code 1264 = .ok (.iconst 1, 1) := by decide +kernel
theorem dL_law_1265 : decode code 1265 = .ok (.iadd, 1) := by decide +kernel
theorem dL_law_1266 : decode code 1266 = .ok (.iaload, 1) := by decide +kernel
theorem dL_law_1267 : decode code 1267 = .ok (.aload_n 0, 1) := by decide +kernel
theorem dL_law_1268 : decode code 1268 = .ok (.iload_n 3, 1) := by decide +kernel
theorem dL_law_1269 : decode code 1269 = .ok (.iconst 2, 1) := by decide +kernel
theorem dL_law_1270 : decode code 1270 = .ok (.iadd, 1) := by decide +kernel
theorem dL_law_1271 : decode code 1271 = .ok (.iaload, 1) := by decide +kernel
theorem dL_law_1272 : decode code 1272 = .ok (.aload_n 0, 1) := by decide +kernel
theorem dL_law_1273 : decode code 1273 = .ok (.iload_n 3, 1) := by decide +kernel
theorem dL_law_1274 : decode code 1274 = .ok (.iconst 3, 1) := by decide +kernel
theorem dL_law_1275 : decode code 1275 = .ok (.iadd, 1) := by decide +kernel
theorem dL_law_1276 : decode code 1276 = .ok (.iaload, 1) := by decide +kernel
theorem dL_law_1277 : decode code 1277 = .ok (.aload_n 0, 1) := by decide +kernel
theorem dL_law_1278 : decode code 1278 = .ok (.iload_n 3, 1) := by decide +kernel
theorem dL_law_1279 : decode code 1279 = .ok (.iconst 4, 1) := by decide +kernel
theorem dL_law_1280 : decode code 1280 = .ok (.iadd, 1) := by decide +kernel
theorem dL_law_1281 : decode code 1281 = .ok (.iaload, 1) := by decide +kernel
theorem dL_law_1282 : decode code 1282 = .ok (.invokevirtual 146, 3) := by decide +kernel
theorem dL_law_1285 : decode code 1285 = .ok (.if_icmp .eq 876, 3) := by decide +kernel
theorem dL_law_1288 : decode code 1288 = .ok (.iconst 0, 1) := by decide +kernel
theorem dL_law_1289 : decode code 1289 = .ok (.ireturn, 1) := by decide +kernel
theorem dL_law_1290 : decode code 1290 = .ok (.aload_n 1, 1) := by decide +kernel
theorem dL_law_1291 : decode code 1291 = .ok (.aload_n 0, 1) := by decide +kernel
theorem dL_law_1292 : decode code 1292 = .ok (.iload_n 3, 1) := by decide +kernel
theorem dL_law_1293 : decode code 1293 = .ok (.iconst 1, 1) := by decide +kernel
theorem dL_law_1294 : decode code 1294 = .ok (.iadd, 1) := by decide +kernel
theorem dL_law_1295 : decode code 1295 = .ok (.iaload, 1) := by decide +kernel
theorem dL_law_1296 : decode code 1296 = .ok (.aload_n 0, 1) := by decide +kernel
theorem dL_law_1297 : decode code 1297 = .ok (.iload_n 3, 1) := by decide +kernel
theorem dL_law_1298 : decode code 1298 = .ok (.iconst 2, 1) := by decide +kernel
theorem dL_law_1299 : decode code 1299 = .ok (.iadd, 1) := by decide +kernel
theorem dL_law_1300 : decode code 1300 = .ok (.iaload, 1) := by decide +kernel
theorem dL_law_1301 : decode code 1301 = .ok (.aload_n 0, 1) := by decide +kernel
theorem dL_law_1302 : decode code 1302 = .ok (.iload_n 3, 1) := by decide +kernel
theorem dL_law_1303 : decode code 1303 = .ok (.iconst 3, 1) := by decide +kernel
theorem dL_law_1304 : decode code 1304 = .ok (.iadd, 1) := by decide +kernel
theorem dL_law_1305 : decode code 1305 = .ok (.iaload, 1) := by decide +kernel
theorem dL_law_1306 : decode code 1306 = .ok (.aload_n 0, 1) := by decide +kernel
theorem dL_law_1307 : decode code 1307 = .ok (.iload_n 3, 1) := by decide +kernel
theorem dL_law_1308 : decode code 1308 = .ok (.iconst 4, 1) := by decide +kernel
theorem dL_law_1309 : decode code 1309 = .ok (.iadd, 1) := by decide +kernel
theorem dL_law_1310 : decode code 1310 = .ok (.iaload, 1) := by decide +kernel
theorem dL_law_1311 : decode code 1311 = .ok (.invokevirtual 147, 3) := by decide +kernel
theorem dL_law_1314 : decode code 1314 = .ok (.aload_n 2, 1) := by decide +kernel
theorem dL_law_1315 : decode code 1315 = .ok (.aload_n 0, 1) := by decide +kernel
theorem dL_law_1316 : decode code 1316 = .ok (.iload_n 3, 1) := by decide +kernel
theorem dL_law_1317 : decode code 1317 = .ok (.iconst 1, 1) := by decide +kernel
theorem dL_law_1318 : decode code 1318 = .ok (.iadd, 1) := by decide +kernel
theorem dL_law_1319 : decode code 1319 = .ok (.iaload, 1) := by decide +kernel
theorem dL_law_1320 : decode code 1320 = .ok (.aload_n 0, 1) := by decide +kernel
theorem dL_law_1321 : decode code 1321 = .ok (.iload_n 3, 1) := by decide +kernel
theorem dL_law_1322 : decode code 1322 = .ok (.iconst 2, 1) := by decide +kernel
theorem dL_law_1323 : decode code 1323 = .ok (.iadd, 1) := by decide +kernel
theorem dL_law_1324 : decode code 1324 = .ok (.iaload, 1) := by decide +kernel
theorem dL_law_1325 : decode code 1325 = .ok (.aload_n 0, 1) := by decide +kernel
theorem dL_law_1326 : decode code 1326 = .ok (.iload_n 3, 1) := by decide +kernel
theorem dL_law_1327 : decode code 1327 = .ok (.iconst 3, 1) := by decide +kernel
theorem dL_law_1328 : decode code 1328 = .ok (.iadd, 1) := by decide +kernel
theorem dL_law_1329 : decode code 1329 = .ok (.iaload, 1) := by decide +kernel
theorem dL_law_1330 : decode code 1330 = .ok (.aload_n 0, 1) := by decide +kernel
theorem dL_law_1331 : decode code 1331 = .ok (.iload_n 3, 1) := by decide +kernel
theorem dL_law_1332 : decode code 1332 = .ok (.iconst 4, 1) := by decide +kernel
theorem dL_law_1333 : decode code 1333 = .ok (.iadd, 1) := by decide +kernel
theorem dL_law_1334 : decode code 1334 = .ok (.iaload, 1) := by decide +kernel
theorem dL_law_1335 : decode code 1335 = .ok (.invokevirtual 150, 3) := by decide +kernel
theorem dL_law_1338 : decode code 1338 = .ok (.if_icmp .eq 823, 3) := by decide +kernel
theorem dL_law_1341 : decode code 1341 = .ok (.iconst 0, 1) := by decide +kernel
theorem dL_law_1342 : decode code 1342 = .ok (.ireturn, 1) := by decide +kernel
theorem dL_law_1343 : decode code 1343 = .ok (.aload_n 1, 1) := by decide +kernel
theorem dL_law_1344 : decode code 1344 = .ok (.aload_n 0, 1) := by decide +kernel
theorem dL_law_1345 : decode code 1345 = .ok (.iload_n 3, 1) := by decide +kernel
theorem dL_law_1346 : decode code 1346 = .ok (.iconst 1, 1) := by decide +kernel
theorem dL_law_1347 : decode code 1347 = .ok (.iadd, 1) := by decide +kernel
theorem dL_law_1348 : decode code 1348 = .ok (.iaload, 1) := by decide +kernel
theorem dL_law_1349 : decode code 1349 = .ok (.aload_n 0, 1) := by decide +kernel
theorem dL_law_1350 : decode code 1350 = .ok (.iload_n 3, 1) := by decide +kernel
theorem dL_law_1351 : decode code 1351 = .ok (.iconst 2, 1) := by decide +kernel
theorem dL_law_1352 : decode code 1352 = .ok (.iadd, 1) := by decide +kernel
theorem dL_law_1353 : decode code 1353 = .ok (.iaload, 1) := by decide +kernel
theorem dL_law_1354 : decode code 1354 = .ok (.aload_n 0, 1) := by decide +kernel
theorem dL_law_1355 : decode code 1355 = .ok (.iload_n 3, 1) := by decide +kernel
theorem dL_law_1356 : decode code 1356 = .ok (.iconst 3, 1) := by decide +kernel
theorem dL_law_1357 : decode code 1357 = .ok (.iadd, 1) := by decide +kernel
theorem dL_law_1358 : decode code 1358 = .ok (.iaload, 1) := by decide +kernel
theorem dL_law_1359 : decode code 1359 = .ok (.invokevirtual 151, 3) := by decide +kernel
theorem dL_law_1362 : decode code 1362 = .ok (.aload_n 2, 1) := by decide +kernel
theorem dL_law_1363 : decode code 1363 = .ok (.aload_n 0, 1) := by decide +kernel
theorem dL_law_1364 : decode code 1364 = .ok (.iload_n 3, 1) := by decide +kernel
theorem dL_law_1365 : decode code 1365 = .ok (.iconst 1, 1) := by decide +kernel
theorem dL_law_1366 : decode code 1366 = .ok (.iadd, 1) := by decide +kernel
theorem dL_law_1367 : decode code 1367 = .ok (.iaload, 1) := by decide +kernel
theorem dL_law_1368 : decode code 1368 = .ok (.aload_n 0, 1) := by decide +kernel
theorem dL_law_1369 : decode code 1369 = .ok (.iload_n 3, 1) := by decide +kernel
theorem dL_law_1370 : decode code 1370 = .ok (.iconst 2, 1) := by decide +kernel
theorem dL_law_1371 : decode code 1371 = .ok (.iadd, 1) := by decide +kernel
theorem dL_law_1372 : decode code 1372 = .ok (.iaload, 1) := by decide +kernel
theorem dL_law_1373 : decode code 1373 = .ok (.aload_n 0, 1) := by decide +kernel
theorem dL_law_1374 : decode code 1374 = .ok (.iload_n 3, 1) := by decide +kernel
theorem dL_law_1375 : decode code 1375 = .ok (.iconst 3, 1) := by decide +kernel
theorem dL_law_1376 : decode code 1376 = .ok (.iadd, 1) := by decide +kernel
theorem dL_law_1377 : decode code 1377 = .ok (.iaload, 1) := by decide +kernel
theorem dL_law_1378 : decode code 1378 = .ok (.invokevirtual 154, 3) := by decide +kernel
theorem dL_law_1381 : decode code 1381 = .ok (.if_icmp .eq 780, 3) := by decide +kernel
theorem dL_law_1384 : decode code 1384 = .ok (.iconst 0, 1) := by decide +kernel
theorem dL_law_1385 : decode code 1385 = .ok (.ireturn, 1) := by decide +kernel
theorem dL_law_1386 : decode code 1386 = .ok (.aload_n 1, 1) := by decide +kernel
theorem dL_law_1387 : decode code 1387 = .ok (.aload_n 0, 1) := by decide +kernel
theorem dL_law_1388 : decode code 1388 = .ok (.iload_n 3, 1) := by decide +kernel
theorem dL_law_1389 : decode code 1389 = .ok (.iconst 1, 1) := by decide +kernel
theorem dL_law_1390 : decode code 1390 = .ok (.iadd, 1) := by decide +kernel
theorem dL_law_1391 : decode code 1391 = .ok (.iaload, 1) := by decide +kernel
theorem dL_law_1392 : decode code 1392 = .ok (.invokevirtual 155, 3) := by decide +kernel
theorem dL_law_1395 : decode code 1395 = .ok (.aload_n 2, 1) := by decide +kernel
theorem dL_law_1396 : decode code 1396 = .ok (.aload_n 0, 1) := by decide +kernel
theorem dL_law_1397 : decode code 1397 = .ok (.iload_n 3, 1) := by decide +kernel
theorem dL_law_1398 : decode code 1398 = .ok (.iconst 1, 1) := by decide +kernel
theorem dL_law_1399 : decode code 1399 = .ok (.iadd, 1) := by decide +kernel
theorem dL_law_1400 : decode code 1400 = .ok (.iaload, 1) := by decide +kernel
theorem dL_law_1401 : decode code 1401 = .ok (.invokevirtual 158, 3) := by decide +kernel
theorem dL_law_1404 : decode code 1404 = .ok (.if_icmp .eq 757, 3) := by decide +kernel
theorem dL_law_1407 : decode code 1407 = .ok (.iconst 0, 1) := by decide +kernel
theorem dL_law_1408 : decode code 1408 = .ok (.ireturn, 1) := by decide +kernel
theorem dL_law_1409 : decode code 1409 = .ok (.aload_n 1, 1) := by decide +kernel
theorem dL_law_1410 : decode code 1410 = .ok (.aload_n 0, 1) := by decide +kernel
theorem dL_law_1411 : decode code 1411 = .ok (.iload_n 3, 1) := by decide +kernel
theorem dL_law_1412 : decode code 1412 = .ok (.iconst 1, 1) := by decide +kernel
theorem dL_law_1413 : decode code 1413 = .ok (.iadd, 1) := by decide +kernel
theorem dL_law_1414 : decode code 1414 = .ok (.iaload, 1) := by decide +kernel
theorem dL_law_1415 : decode code 1415 = .ok (.invokevirtual 159, 3) := by decide +kernel
theorem dL_law_1418 : decode code 1418 = .ok (.aload_n 2, 1) := by decide +kernel
theorem dL_law_1419 : decode code 1419 = .ok (.aload_n 0, 1) := by decide +kernel
theorem dL_law_1420 : decode code 1420 = .ok (.iload_n 3, 1) := by decide +kernel
theorem dL_law_1421 : decode code 1421 = .ok (.iconst 1, 1) := by decide +kernel
theorem dL_law_1422 : decode code 1422 = .ok (.iadd, 1) := by decide +kernel
theorem dL_law_1423 : decode code 1423 = .ok (.iaload, 1) := by decide +kernel
theorem dL_law_1424 : decode code 1424 = .ok (.invokevirtual 162, 3) := by decide +kernel
theorem dL_law_1427 : decode code 1427 = .ok (.if_icmp .eq 734, 3) := by decide +kernel
theorem dL_law_1430 : decode code 1430 = .ok (.iconst 0, 1) := by decide +kernel
theorem dL_law_1431 : decode code 1431 = .ok (.ireturn, 1) := by decide +kernel
theorem dL_law_1432 : decode code 1432 = .ok (.aload_n 1, 1) := by decide +kernel
theorem dL_law_1433 : decode code 1433 = .ok (.aload_n 0, 1) := by decide +kernel
theorem dL_law_1434 : decode code 1434 = .ok (.iload_n 3, 1) := by decide +kernel
theorem dL_law_1435 : decode code 1435 = .ok (.iconst 1, 1) := by decide +kernel
theorem dL_law_1436 : decode code 1436 = .ok (.iadd, 1) := by decide +kernel
theorem dL_law_1437 : decode code 1437 = .ok (.iaload, 1) := by decide +kernel
theorem dL_law_1438 : decode code 1438 = .ok (.invokevirtual 163, 3) := by decide +kernel
theorem dL_law_1441 : decode code 1441 = .ok (.aload_n 2, 1) := by decide +kernel
theorem dL_law_1442 : decode code 1442 = .ok (.aload_n 0, 1) := by decide +kernel
theorem dL_law_1443 : decode code 1443 = .ok (.iload_n 3, 1) := by decide +kernel
theorem dL_law_1444 : decode code 1444 = .ok (.iconst 1, 1) := by decide +kernel
theorem dL_law_1445 : decode code 1445 = .ok (.iadd, 1) := by decide +kernel
theorem dL_law_1446 : decode code 1446 = .ok (.iaload, 1) := by decide +kernel
theorem dL_law_1447 : decode code 1447 = .ok (.invokevirtual 166, 3) := by decide +kernel
theorem dL_law_1450 : decode code 1450 = .ok (.if_icmp .eq 711, 3) := by decide +kernel
theorem dL_law_1453 : decode code 1453 = .ok (.iconst 0, 1) := by decide +kernel
theorem dL_law_1454 : decode code 1454 = .ok (.ireturn, 1) := by decide +kernel
theorem dL_law_1455 : decode code 1455 = .ok (.aload_n 1, 1) := by decide +kernel
theorem dL_law_1456 : decode code 1456 = .ok (.aload_n 0, 1) := by decide +kernel
theorem dL_law_1457 : decode code 1457 = .ok (.iload_n 3, 1) := by decide +kernel
theorem dL_law_1458 : decode code 1458 = .ok (.iconst 1, 1) := by decide +kernel
theorem dL_law_1459 : decode code 1459 = .ok (.iadd, 1) := by decide +kernel
theorem dL_law_1460 : decode code 1460 = .ok (.iaload, 1) := by decide +kernel
theorem dL_law_1461 : decode code 1461 = .ok (.aload_n 0, 1) := by decide +kernel
theorem dL_law_1462 : decode code 1462 = .ok (.iload_n 3, 1) := by decide +kernel
theorem dL_law_1463 : decode code 1463 = .ok (.iconst 2, 1) := by decide +kernel
theorem dL_law_1464 : decode code 1464 = .ok (.iadd, 1) := by decide +kernel
theorem dL_law_1465 : decode code 1465 = .ok (.iaload, 1) := by decide +kernel
theorem dL_law_1466 : decode code 1466 = .ok (.invokevirtual 167, 3) := by decide +kernel
theorem dL_law_1469 : decode code 1469 = .ok (.aload_n 2, 1) := by decide +kernel
theorem dL_law_1470 : decode code 1470 = .ok (.aload_n 0, 1) := by decide +kernel
theorem dL_law_1471 : decode code 1471 = .ok (.iload_n 3, 1) := by decide +kernel
theorem dL_law_1472 : decode code 1472 = .ok (.iconst 1, 1) := by decide +kernel
theorem dL_law_1473 : decode code 1473 = .ok (.iadd, 1) := by decide +kernel
theorem dL_law_1474 : decode code 1474 = .ok (.iaload, 1) := by decide +kernel
theorem dL_law_1475 : decode code 1475 = .ok (.aload_n 0, 1) := by decide +kernel
theorem dL_law_1476 : decode code 1476 = .ok (.iload_n 3, 1) := by decide +kernel
theorem dL_law_1477 : decode code 1477 = .ok (.iconst 2, 1) := by decide +kernel
theorem dL_law_1478 : decode code 1478 = .ok (.iadd, 1) := by decide +kernel
theorem dL_law_1479 : decode code 1479 = .ok (.iaload, 1) := by decide +kernel
theorem dL_law_1480 : decode code 1480 = .ok (.invokevirtual 170, 3) := by decide +kernel
theorem dL_law_1483 : decode code 1483 = .ok (.if_icmp .eq 678, 3) := by decide +kernel
theorem dL_law_1486 : decode code 1486 = .ok (.iconst 0, 1) := by decide +kernel
theorem dL_law_1487 : decode code 1487 = .ok (.ireturn, 1) := by decide +kernel
theorem dL_law_1488 : decode code 1488 = .ok (.aload_n 1, 1) := by decide +kernel
theorem dL_law_1489 : decode code 1489 = .ok (.aload_n 0, 1) := by decide +kernel
theorem dL_law_1490 : decode code 1490 = .ok (.iload_n 3, 1) := by decide +kernel
theorem dL_law_1491 : decode code 1491 = .ok (.iconst 1, 1) := by decide +kernel
theorem dL_law_1492 : decode code 1492 = .ok (.iadd, 1) := by decide +kernel
theorem dL_law_1493 : decode code 1493 = .ok (.iaload, 1) := by decide +kernel
theorem dL_law_1494 : decode code 1494 = .ok (.invokevirtual 171, 3) := by decide +kernel
theorem dL_law_1497 : decode code 1497 = .ok (.aload_n 2, 1) := by decide +kernel
theorem dL_law_1498 : decode code 1498 = .ok (.aload_n 0, 1) := by decide +kernel
theorem dL_law_1499 : decode code 1499 = .ok (.iload_n 3, 1) := by decide +kernel
theorem dL_law_1500 : decode code 1500 = .ok (.iconst 1, 1) := by decide +kernel
theorem dL_law_1501 : decode code 1501 = .ok (.iadd, 1) := by decide +kernel
theorem dL_law_1502 : decode code 1502 = .ok (.iaload, 1) := by decide +kernel
theorem dL_law_1503 : decode code 1503 = .ok (.invokevirtual 174, 3) := by decide +kernel
theorem dL_law_1506 : decode code 1506 = .ok (.if_icmp .eq 655, 3) := by decide +kernel
theorem dL_law_1509 : decode code 1509 = .ok (.iconst 0, 1) := by decide +kernel
theorem dL_law_1510 : decode code 1510 = .ok (.ireturn, 1) := by decide +kernel
theorem dL_law_1511 : decode code 1511 = .ok (.aload_n 1, 1) := by decide +kernel
theorem dL_law_1512 : decode code 1512 = .ok (.aload_n 0, 1) := by decide +kernel
theorem dL_law_1513 : decode code 1513 = .ok (.iload_n 3, 1) := by decide +kernel
theorem dL_law_1514 : decode code 1514 = .ok (.iconst 1, 1) := by decide +kernel
theorem dL_law_1515 : decode code 1515 = .ok (.iadd, 1) := by decide +kernel
theorem dL_law_1516 : decode code 1516 = .ok (.iaload, 1) := by decide +kernel
theorem dL_law_1517 : decode code 1517 = .ok (.aload_n 0, 1) := by decide +kernel
theorem dL_law_1518 : decode code 1518 = .ok (.iload_n 3, 1) := by decide +kernel
theorem dL_law_1519 : decode code 1519 = .ok (.iconst 2, 1) := by decide +kernel
theorem dL_law_1520 : decode code 1520 = .ok (.iadd, 1) := by decide +kernel
theorem dL_law_1521 : decode code 1521 = .ok (.iaload, 1) := by decide +kernel
theorem dL_law_1522 : decode code 1522 = .ok (.invokevirtual 175, 3) := by decide +kernel
theorem dL_law_1525 : decode code 1525 = .ok (.aload_n 2, 1) := by decide +kernel
theorem dL_law_1526 : decode code 1526 = .ok (.aload_n 0, 1) := by decide +kernel
theorem dL_law_1527 : decode code 1527 = .ok (.iload_n 3, 1) := by decide +kernel
theorem dL_law_1528 : decode code 1528 = .ok (.iconst 1, 1) := by decide +kernel
theorem dL_law_1529 : decode code 1529 = .ok (.iadd, 1) := by decide +kernel
theorem dL_law_1530 : decode code 1530 = .ok (.iaload, 1) := by decide +kernel
theorem dL_law_1531 : decode code 1531 = .ok (.aload_n 0, 1) := by decide +kernel
theorem dL_law_1532 : decode code 1532 = .ok (.iload_n 3, 1) := by decide +kernel
theorem dL_law_1533 : decode code 1533 = .ok (.iconst 2, 1) := by decide +kernel
theorem dL_law_1534 : decode code 1534 = .ok (.iadd, 1) := by decide +kernel
theorem dL_law_1535 : decode code 1535 = .ok (.iaload, 1) := by decide +kernel
theorem dL_law_1536 : decode code 1536 = .ok (.invokevirtual 178, 3) := by decide +kernel
theorem dL_law_1539 : decode code 1539 = .ok (.if_icmp .eq 622, 3) := by decide +kernel
theorem dL_law_1542 : decode code 1542 = .ok (.iconst 0, 1) := by decide +kernel
theorem dL_law_1543 : decode code 1543 = .ok (.ireturn, 1) := by decide +kernel
theorem dL_law_1544 : decode code 1544 = .ok (.aload_n 1, 1) := by decide +kernel
theorem dL_law_1545 : decode code 1545 = .ok (.aload_n 0, 1) := by decide +kernel
theorem dL_law_1546 : decode code 1546 = .ok (.iload_n 3, 1) := by decide +kernel
theorem dL_law_1547 : decode code 1547 = .ok (.iconst 1, 1) := by decide +kernel
theorem dL_law_1548 : decode code 1548 = .ok (.iadd, 1) := by decide +kernel
theorem dL_law_1549 : decode code 1549 = .ok (.iaload, 1) := by decide +kernel
theorem dL_law_1550 : decode code 1550 = .ok (.aload_n 0, 1) := by decide +kernel
theorem dL_law_1551 : decode code 1551 = .ok (.iload_n 3, 1) := by decide +kernel
theorem dL_law_1552 : decode code 1552 = .ok (.iconst 2, 1) := by decide +kernel
theorem dL_law_1553 : decode code 1553 = .ok (.iadd, 1) := by decide +kernel
theorem dL_law_1554 : decode code 1554 = .ok (.iaload, 1) := by decide +kernel
theorem dL_law_1555 : decode code 1555 = .ok (.aload_n 0, 1) := by decide +kernel
theorem dL_law_1556 : decode code 1556 = .ok (.iload_n 3, 1) := by decide +kernel
theorem dL_law_1557 : decode code 1557 = .ok (.iconst 3, 1) := by decide +kernel
theorem dL_law_1558 : decode code 1558 = .ok (.iadd, 1) := by decide +kernel
theorem dL_law_1559 : decode code 1559 = .ok (.iaload, 1) := by decide +kernel
theorem dL_law_1560 : decode code 1560 = .ok (.invokevirtual 179, 3) := by decide +kernel
theorem dL_law_1563 : decode code 1563 = .ok (.aload_n 2, 1) := by decide +kernel
theorem dL_law_1564 : decode code 1564 = .ok (.aload_n 0, 1) := by decide +kernel
theorem dL_law_1565 : decode code 1565 = .ok (.iload_n 3, 1) := by decide +kernel
theorem dL_law_1566 : decode code 1566 = .ok (.iconst 1, 1) := by decide +kernel
theorem dL_law_1567 : decode code 1567 = .ok (.iadd, 1) := by decide +kernel
theorem dL_law_1568 : decode code 1568 = .ok (.iaload, 1) := by decide +kernel
theorem dL_law_1569 : decode code 1569 = .ok (.aload_n 0, 1) := by decide +kernel
theorem dL_law_1570 : decode code 1570 = .ok (.iload_n 3, 1) := by decide +kernel
theorem dL_law_1571 : decode code 1571 = .ok (.iconst 2, 1) := by decide +kernel
theorem dL_law_1572 : decode code 1572 = .ok (.iadd, 1) := by decide +kernel
theorem dL_law_1573 : decode code 1573 = .ok (.iaload, 1) := by decide +kernel
theorem dL_law_1574 : decode code 1574 = .ok (.aload_n 0, 1) := by decide +kernel
theorem dL_law_1575 : decode code 1575 = .ok (.iload_n 3, 1) := by decide +kernel
theorem dL_law_1576 : decode code 1576 = .ok (.iconst 3, 1) := by decide +kernel
theorem dL_law_1577 : decode code 1577 = .ok (.iadd, 1) := by decide +kernel
theorem dL_law_1578 : decode code 1578 = .ok (.iaload, 1) := by decide +kernel
theorem dL_law_1579 : decode code 1579 = .ok (.invokevirtual 182, 3) := by decide +kernel
theorem dL_law_1582 : decode code 1582 = .ok (.if_icmp .eq 579, 3) := by decide +kernel
theorem dL_law_1585 : decode code 1585 = .ok (.iconst 0, 1) := by decide +kernel
theorem dL_law_1586 : decode code 1586 = .ok (.ireturn, 1) := by decide +kernel
theorem dL_law_1587 : decode code 1587 = .ok (.aload_n 1, 1) := by decide +kernel
theorem dL_law_1588 : decode code 1588 = .ok (.aload_n 0, 1) := by decide +kernel
theorem dL_law_1589 : decode code 1589 = .ok (.iload_n 3, 1) := by decide +kernel
theorem dL_law_1590 : decode code 1590 = .ok (.iconst 1, 1) := by decide +kernel
theorem dL_law_1591 : decode code 1591 = .ok (.iadd, 1) := by decide +kernel
theorem dL_law_1592 : decode code 1592 = .ok (.iaload, 1) := by decide +kernel
theorem dL_law_1593 : decode code 1593 = .ok (.aload_n 0, 1) := by decide +kernel
theorem dL_law_1594 : decode code 1594 = .ok (.iload_n 3, 1) := by decide +kernel
theorem dL_law_1595 : decode code 1595 = .ok (.iconst 2, 1) := by decide +kernel
theorem dL_law_1596 : decode code 1596 = .ok (.iadd, 1) := by decide +kernel
theorem dL_law_1597 : decode code 1597 = .ok (.iaload, 1) := by decide +kernel
theorem dL_law_1598 : decode code 1598 = .ok (.invokevirtual 183, 3) := by decide +kernel
theorem dL_law_1601 : decode code 1601 = .ok (.aload_n 2, 1) := by decide +kernel
theorem dL_law_1602 : decode code 1602 = .ok (.aload_n 0, 1) := by decide +kernel
theorem dL_law_1603 : decode code 1603 = .ok (.iload_n 3, 1) := by decide +kernel
theorem dL_law_1604 : decode code 1604 = .ok (.iconst 1, 1) := by decide +kernel
theorem dL_law_1605 : decode code 1605 = .ok (.iadd, 1) := by decide +kernel
theorem dL_law_1606 : decode code 1606 = .ok (.iaload, 1) := by decide +kernel
theorem dL_law_1607 : decode code 1607 = .ok (.aload_n 0, 1) := by decide +kernel
theorem dL_law_1608 : decode code 1608 = .ok (.iload_n 3, 1) := by decide +kernel
theorem dL_law_1609 : decode code 1609 = .ok (.iconst 2, 1) := by decide +kernel
theorem dL_law_1610 : decode code 1610 = .ok (.iadd, 1) := by decide +kernel
theorem dL_law_1611 : decode code 1611 = .ok (.iaload, 1) := by decide +kernel
theorem dL_law_1612 : decode code 1612 = .ok (.invokevirtual 186, 3) := by decide +kernel
theorem dL_law_1615 : decode code 1615 = .ok (.if_icmp .eq 546, 3) := by decide +kernel
theorem dL_law_1618 : decode code 1618 = .ok (.iconst 0, 1) := by decide +kernel
theorem dL_law_1619 : decode code 1619 = .ok (.ireturn, 1) := by decide +kernel
theorem dL_law_1620 : decode code 1620 = .ok (.aload_n 1, 1) := by decide +kernel
theorem dL_law_1621 : decode code 1621 = .ok (.aload_n 0, 1) := by decide +kernel
theorem dL_law_1622 : decode code 1622 = .ok (.iload_n 3, 1) := by decide +kernel
theorem dL_law_1623 : decode code 1623 = .ok (.iconst 1, 1) := by decide +kernel
theorem dL_law_1624 : decode code 1624 = .ok (.iadd, 1) := by decide +kernel
theorem dL_law_1625 : decode code 1625 = .ok (.iaload, 1) := by decide +kernel
theorem dL_law_1626 : decode code 1626 = .ok (.aload_n 0, 1) := by decide +kernel
theorem dL_law_1627 : decode code 1627 = .ok (.iload_n 3, 1) := by decide +kernel
theorem dL_law_1628 : decode code 1628 = .ok (.iconst 2, 1) := by decide +kernel
theorem dL_law_1629 : decode code 1629 = .ok (.iadd, 1) := by decide +kernel
theorem dL_law_1630 : decode code 1630 = .ok (.iaload, 1) := by decide +kernel
theorem dL_law_1631 : decode code 1631 = .ok (.invokevirtual 187, 3) := by decide +kernel
theorem dL_law_1634 : decode code 1634 = .ok (.aload_n 2, 1) := by decide +kernel
theorem dL_law_1635 : decode code 1635 = .ok (.aload_n 0, 1) := by decide +kernel
theorem dL_law_1636 : decode code 1636 = .ok (.iload_n 3, 1) := by decide +kernel
theorem dL_law_1637 : decode code 1637 = .ok (.iconst 1, 1) := by decide +kernel
theorem dL_law_1638 : decode code 1638 = .ok (.iadd, 1) := by decide +kernel
theorem dL_law_1639 : decode code 1639 = .ok (.iaload, 1) := by decide +kernel
theorem dL_law_1640 : decode code 1640 = .ok (.aload_n 0, 1) := by decide +kernel
theorem dL_law_1641 : decode code 1641 = .ok (.iload_n 3, 1) := by decide +kernel
theorem dL_law_1642 : decode code 1642 = .ok (.iconst 2, 1) := by decide +kernel
theorem dL_law_1643 : decode code 1643 = .ok (.iadd, 1) := by decide +kernel
theorem dL_law_1644 : decode code 1644 = .ok (.iaload, 1) := by decide +kernel
theorem dL_law_1645 : decode code 1645 = .ok (.invokevirtual 190, 3) := by decide +kernel
theorem dL_law_1648 : decode code 1648 = .ok (.if_icmp .eq 513, 3) := by decide +kernel
theorem dL_law_1651 : decode code 1651 = .ok (.iconst 0, 1) := by decide +kernel
theorem dL_law_1652 : decode code 1652 = .ok (.ireturn, 1) := by decide +kernel
theorem dL_law_1653 : decode code 1653 = .ok (.aload_n 1, 1) := by decide +kernel
theorem dL_law_1654 : decode code 1654 = .ok (.aload_n 0, 1) := by decide +kernel
theorem dL_law_1655 : decode code 1655 = .ok (.iload_n 3, 1) := by decide +kernel
theorem dL_law_1656 : decode code 1656 = .ok (.iconst 1, 1) := by decide +kernel
theorem dL_law_1657 : decode code 1657 = .ok (.iadd, 1) := by decide +kernel
theorem dL_law_1658 : decode code 1658 = .ok (.iaload, 1) := by decide +kernel
theorem dL_law_1659 : decode code 1659 = .ok (.invokevirtual 191, 3) := by decide +kernel
theorem dL_law_1662 : decode code 1662 = .ok (.aload_n 2, 1) := by decide +kernel
theorem dL_law_1663 : decode code 1663 = .ok (.aload_n 0, 1) := by decide +kernel
theorem dL_law_1664 : decode code 1664 = .ok (.iload_n 3, 1) := by decide +kernel
theorem dL_law_1665 : decode code 1665 = .ok (.iconst 1, 1) := by decide +kernel
theorem dL_law_1666 : decode code 1666 = .ok (.iadd, 1) := by decide +kernel
theorem dL_law_1667 : decode code 1667 = .ok (.iaload, 1) := by decide +kernel
theorem dL_law_1668 : decode code 1668 = .ok (.invokevirtual 194, 3) := by decide +kernel
theorem dL_law_1671 : decode code 1671 = .ok (.if_icmp .eq 490, 3) := by decide +kernel
theorem dL_law_1674 : decode code 1674 = .ok (.iconst 0, 1) := by decide +kernel
theorem dL_law_1675 : decode code 1675 = .ok (.ireturn, 1) := by decide +kernel
theorem dL_law_1676 : decode code 1676 = .ok (.aload_n 1, 1) := by decide +kernel
theorem dL_law_1677 : decode code 1677 = .ok (.invokevirtual 195, 3) := by decide +kernel
theorem dL_law_1680 : decode code 1680 = .ok (.aload_n 2, 1) := by decide +kernel
theorem dL_law_1681 : decode code 1681 = .ok (.invokevirtual 198, 3) := by decide +kernel
theorem dL_law_1684 : decode code 1684 = .ok (.if_icmp .eq 477, 3) := by decide +kernel
theorem dL_law_1687 : decode code 1687 = .ok (.iconst 0, 1) := by decide +kernel
theorem dL_law_1688 : decode code 1688 = .ok (.ireturn, 1) := by decide +kernel
theorem dL_law_1689 : decode code 1689 = .ok (.aload_n 1, 1) := by decide +kernel
theorem dL_law_1690 : decode code 1690 = .ok (.invokevirtual 199, 3) := by decide +kernel
theorem dL_law_1693 : decode code 1693 = .ok (.aload_n 2, 1) := by decide +kernel
theorem dL_law_1694 : decode code 1694 = .ok (.invokevirtual 202, 3) := by decide +kernel
theorem dL_law_1697 : decode code 1697 = .ok (.if_icmp .eq 464, 3) := by decide +kernel
theorem dL_law_1700 : decode code 1700 = .ok (.iconst 0, 1) := by decide +kernel
theorem dL_law_1701 : decode code 1701 = .ok (.ireturn, 1) := by decide +kernel
theorem dL_law_1702 : decode code 1702 = .ok (.aload_n 1, 1) := by decide +kernel
theorem dL_law_1703 : decode code 1703 = .ok (.aload_n 0, 1) := by decide +kernel
theorem dL_law_1704 : decode code 1704 = .ok (.iload_n 3, 1) := by decide +kernel
theorem dL_law_1705 : decode code 1705 = .ok (.iconst 1, 1) := by decide +kernel
theorem dL_law_1706 : decode code 1706 = .ok (.iadd, 1) := by decide +kernel
theorem dL_law_1707 : decode code 1707 = .ok (.iaload, 1) := by decide +kernel
theorem dL_law_1708 : decode code 1708 = .ok (.aload_n 0, 1) := by decide +kernel
theorem dL_law_1709 : decode code 1709 = .ok (.iload_n 3, 1) := by decide +kernel
theorem dL_law_1710 : decode code 1710 = .ok (.iconst 2, 1) := by decide +kernel
theorem dL_law_1711 : decode code 1711 = .ok (.iadd, 1) := by decide +kernel
theorem dL_law_1712 : decode code 1712 = .ok (.iaload, 1) := by decide +kernel
theorem dL_law_1713 : decode code 1713 = .ok (.aload_n 0, 1) := by decide +kernel
theorem dL_law_1714 : decode code 1714 = .ok (.iload_n 3, 1) := by decide +kernel
theorem dL_law_1715 : decode code 1715 = .ok (.iconst 3, 1) := by decide +kernel
theorem dL_law_1716 : decode code 1716 = .ok (.iadd, 1) := by decide +kernel
theorem dL_law_1717 : decode code 1717 = .ok (.iaload, 1) := by decide +kernel
theorem dL_law_1718 : decode code 1718 = .ok (.invokevirtual 203, 3) := by decide +kernel
theorem dL_law_1721 : decode code 1721 = .ok (.aload_n 2, 1) := by decide +kernel
theorem dL_law_1722 : decode code 1722 = .ok (.aload_n 0, 1) := by decide +kernel
theorem dL_law_1723 : decode code 1723 = .ok (.iload_n 3, 1) := by decide +kernel
theorem dL_law_1724 : decode code 1724 = .ok (.iconst 1, 1) := by decide +kernel
theorem dL_law_1725 : decode code 1725 = .ok (.iadd, 1) := by decide +kernel
theorem dL_law_1726 : decode code 1726 = .ok (.iaload, 1) := by decide +kernel
theorem dL_law_1727 : decode code 1727 = .ok (.aload_n 0, 1) := by decide +kernel
theorem dL_law_1728 : decode code 1728 = .ok (.iload_n 3, 1) := by decide +kernel
theorem dL_law_1729 : decode code 1729 = .ok (.iconst 2, 1) := by decide +kernel
theorem dL_law_1730 : decode code 1730 = .ok (.iadd, 1) := by decide +kernel
theorem dL_law_1731 : decode code 1731 = .ok (.iaload, 1) := by decide +kernel
theorem dL_law_1732 : decode code 1732 = .ok (.aload_n 0, 1) := by decide +kernel
theorem dL_law_1733 : decode code 1733 = .ok (.iload_n 3, 1) := by decide +kernel
theorem dL_law_1734 : decode code 1734 = .ok (.iconst 3, 1) := by decide +kernel
theorem dL_law_1735 : decode code 1735 = .ok (.iadd, 1) := by decide +kernel
theorem dL_law_1736 : decode code 1736 = .ok (.iaload, 1) := by decide +kernel
theorem dL_law_1737 : decode code 1737 = .ok (.invokevirtual 206, 3) := by decide +kernel
theorem dL_law_1740 : decode code 1740 = .ok (.if_icmp .eq 421, 3) := by decide +kernel
theorem dL_law_1743 : decode code 1743 = .ok (.iconst 0, 1) := by decide +kernel
theorem dL_law_1744 : decode code 1744 = .ok (.ireturn, 1) := by decide +kernel
theorem dL_law_1745 : decode code 1745 = .ok (.aload_n 1, 1) := by decide +kernel
theorem dL_law_1746 : decode code 1746 = .ok (.aload_n 0, 1) := by decide +kernel
theorem dL_law_1747 : decode code 1747 = .ok (.iload_n 3, 1) := by decide +kernel
theorem dL_law_1748 : decode code 1748 = .ok (.iconst 1, 1) := by decide +kernel
theorem dL_law_1749 : decode code 1749 = .ok (.iadd, 1) := by decide +kernel
theorem dL_law_1750 : decode code 1750 = .ok (.iaload, 1) := by decide +kernel
theorem dL_law_1751 : decode code 1751 = .ok (.aload_n 0, 1) := by decide +kernel
theorem dL_law_1752 : decode code 1752 = .ok (.iload_n 3, 1) := by decide +kernel
theorem dL_law_1753 : decode code 1753 = .ok (.iconst 2, 1) := by decide +kernel
theorem dL_law_1754 : decode code 1754 = .ok (.iadd, 1) := by decide +kernel
theorem dL_law_1755 : decode code 1755 = .ok (.iaload, 1) := by decide +kernel
theorem dL_law_1756 : decode code 1756 = .ok (.aload_n 0, 1) := by decide +kernel
theorem dL_law_1757 : decode code 1757 = .ok (.iload_n 3, 1) := by decide +kernel
theorem dL_law_1758 : decode code 1758 = .ok (.iconst 3, 1) := by decide +kernel
theorem dL_law_1759 : decode code 1759 = .ok (.iadd, 1) := by decide +kernel
theorem dL_law_1760 : decode code 1760 = .ok (.iaload, 1) := by decide +kernel
theorem dL_law_1761 : decode code 1761 = .ok (.invokevirtual 207, 3) := by decide +kernel
theorem dL_law_1764 : decode code 1764 = .ok (.aload_n 2, 1) := by decide +kernel
theorem dL_law_1765 : decode code 1765 = .ok (.aload_n 0, 1) := by decide +kernel
theorem dL_law_1766 : decode code 1766 = .ok (.iload_n 3, 1) := by decide +kernel
theorem dL_law_1767 : decode code 1767 = .ok (.iconst 1, 1) := by decide +kernel
theorem dL_law_1768 : decode code 1768 = .ok (.iadd, 1) := by decide +kernel
theorem dL_law_1769 : decode code 1769 = .ok (.iaload, 1) := by decide +kernel
theorem dL_law_1770 : decode code 1770 = .ok (.aload_n 0, 1) := by decide +kernel
theorem dL_law_1771 : decode code 1771 = .ok (.iload_n 3, 1) := by decide +kernel
theorem dL_law_1772 : decode code 1772 = .ok (.iconst 2, 1) := by decide +kernel
theorem dL_law_1773 : decode code 1773 = .ok (.iadd, 1) := by decide +kernel
theorem dL_law_1774 : decode code 1774 = .ok (.iaload, 1) := by decide +kernel
theorem dL_law_1775 : decode code 1775 = .ok (.aload_n 0, 1) := by decide +kernel
theorem dL_law_1776 : decode code 1776 = .ok (.iload_n 3, 1) := by decide +kernel
theorem dL_law_1777 : decode code 1777 = .ok (.iconst 3, 1) := by decide +kernel
theorem dL_law_1778 : decode code 1778 = .ok (.iadd, 1) := by decide +kernel
theorem dL_law_1779 : decode code 1779 = .ok (.iaload, 1) := by decide +kernel
theorem dL_law_1780 : decode code 1780 = .ok (.invokevirtual 210, 3) := by decide +kernel
theorem dL_law_1783 : decode code 1783 = .ok (.if_icmp .eq 378, 3) := by decide +kernel
theorem dL_law_1786 : decode code 1786 = .ok (.iconst 0, 1) := by decide +kernel
theorem dL_law_1787 : decode code 1787 = .ok (.ireturn, 1) := by decide +kernel
theorem dL_law_1788 : decode code 1788 = .ok (.aload_n 1, 1) := by decide +kernel
theorem dL_law_1789 : decode code 1789 = .ok (.aload_n 0, 1) := by decide +kernel
theorem dL_law_1790 : decode code 1790 = .ok (.iload_n 3, 1) := by decide +kernel
theorem dL_law_1791 : decode code 1791 = .ok (.iconst 1, 1) := by decide +kernel
theorem dL_law_1792 : decode code 1792 = .ok (.iadd, 1) := by decide +kernel
theorem dL_law_1793 : decode code 1793 = .ok (.iaload, 1) := by decide +kernel
theorem dL_law_1794 : decode code 1794 = .ok (.invokevirtual 211, 3) := by decide +kernel
theorem dL_law_1797 : decode code 1797 = .ok (.aload_n 2, 1) := by decide +kernel
theorem dL_law_1798 : decode code 1798 = .ok (.aload_n 0, 1) := by decide +kernel
theorem dL_law_1799 : decode code 1799 = .ok (.iload_n 3, 1) := by decide +kernel
theorem dL_law_1800 : decode code 1800 = .ok (.iconst 1, 1) := by decide +kernel
theorem dL_law_1801 : decode code 1801 = .ok (.iadd, 1) := by decide +kernel
theorem dL_law_1802 : decode code 1802 = .ok (.iaload, 1) := by decide +kernel
theorem dL_law_1803 : decode code 1803 = .ok (.invokevirtual 214, 3) := by decide +kernel
theorem dL_law_1806 : decode code 1806 = .ok (.if_icmp .eq 355, 3) := by decide +kernel
theorem dL_law_1809 : decode code 1809 = .ok (.iconst 0, 1) := by decide +kernel
theorem dL_law_1810 : decode code 1810 = .ok (.ireturn, 1) := by decide +kernel
theorem dL_law_1811 : decode code 1811 = .ok (.aload_n 1, 1) := by decide +kernel
theorem dL_law_1812 : decode code 1812 = .ok (.aload_n 0, 1) := by decide +kernel
theorem dL_law_1813 : decode code 1813 = .ok (.iload_n 3, 1) := by decide +kernel
theorem dL_law_1814 : decode code 1814 = .ok (.iconst 1, 1) := by decide +kernel
theorem dL_law_1815 : decode code 1815 = .ok (.iadd, 1) := by decide +kernel
theorem dL_law_1816 : decode code 1816 = .ok (.iaload, 1) := by decide +kernel
theorem dL_law_1817 : decode code 1817 = .ok (.invokevirtual 215, 3) := by decide +kernel
theorem dL_law_1820 : decode code 1820 = .ok (.aload_n 2, 1) := by decide +kernel
theorem dL_law_1821 : decode code 1821 = .ok (.aload_n 0, 1) := by decide +kernel
theorem dL_law_1822 : decode code 1822 = .ok (.iload_n 3, 1) := by decide +kernel
theorem dL_law_1823 : decode code 1823 = .ok (.iconst 1, 1) := by decide +kernel
theorem dL_law_1824 : decode code 1824 = .ok (.iadd, 1) := by decide +kernel
theorem dL_law_1825 : decode code 1825 = .ok (.iaload, 1) := by decide +kernel
theorem dL_law_1826 : decode code 1826 = .ok (.invokevirtual 218, 3) := by decide +kernel
theorem dL_law_1829 : decode code 1829 = .ok (.if_icmp .eq 332, 3) := by decide +kernel
theorem dL_law_1832 : decode code 1832 = .ok (.iconst 0, 1) := by decide +kernel
theorem dL_law_1833 : decode code 1833 = .ok (.ireturn, 1) := by decide +kernel
theorem dL_law_1834 : decode code 1834 = .ok (.aload_n 1, 1) := by decide +kernel
theorem dL_law_1835 : decode code 1835 = .ok (.aload_n 0, 1) := by decide +kernel
theorem dL_law_1836 : decode code 1836 = .ok (.iload_n 3, 1) := by decide +kernel
theorem dL_law_1837 : decode code 1837 = .ok (.iconst 1, 1) := by decide +kernel
theorem dL_law_1838 : decode code 1838 = .ok (.iadd, 1) := by decide +kernel
theorem dL_law_1839 : decode code 1839 = .ok (.iaload, 1) := by decide +kernel
theorem dL_law_1840 : decode code 1840 = .ok (.invokevirtual 219, 3) := by decide +kernel
theorem dL_law_1843 : decode code 1843 = .ok (.aload_n 2, 1) := by decide +kernel
theorem dL_law_1844 : decode code 1844 = .ok (.aload_n 0, 1) := by decide +kernel
theorem dL_law_1845 : decode code 1845 = .ok (.iload_n 3, 1) := by decide +kernel
theorem dL_law_1846 : decode code 1846 = .ok (.iconst 1, 1) := by decide +kernel
theorem dL_law_1847 : decode code 1847 = .ok (.iadd, 1) := by decide +kernel
theorem dL_law_1848 : decode code 1848 = .ok (.iaload, 1) := by decide +kernel
theorem dL_law_1849 : decode code 1849 = .ok (.invokevirtual 222, 3) := by decide +kernel
theorem dL_law_1852 : decode code 1852 = .ok (.if_icmp .eq 309, 3) := by decide +kernel
theorem dL_law_1855 : decode code 1855 = .ok (.iconst 0, 1) := by decide +kernel
theorem dL_law_1856 : decode code 1856 = .ok (.ireturn, 1) := by decide +kernel
theorem dL_law_1857 : decode code 1857 = .ok (.aload_n 1, 1) := by decide +kernel
theorem dL_law_1858 : decode code 1858 = .ok (.aload_n 0, 1) := by decide +kernel
theorem dL_law_1859 : decode code 1859 = .ok (.iload_n 3, 1) := by decide +kernel
theorem dL_law_1860 : decode code 1860 = .ok (.iconst 1, 1) := by decide +kernel
theorem dL_law_1861 : decode code 1861 = .ok (.iadd, 1) := by decide +kernel
theorem dL_law_1862 : decode code 1862 = .ok (.iaload, 1) := by decide +kernel
theorem dL_law_1863 : decode code 1863 = .ok (.invokevirtual 223, 3) := by decide +kernel
theorem dL_law_1866 : decode code 1866 = .ok (.aload_n 2, 1) := by decide +kernel
theorem dL_law_1867 : decode code 1867 = .ok (.aload_n 0, 1) := by decide +kernel
theorem dL_law_1868 : decode code 1868 = .ok (.iload_n 3, 1) := by decide +kernel
theorem dL_law_1869 : decode code 1869 = .ok (.iconst 1, 1) := by decide +kernel
theorem dL_law_1870 : decode code 1870 = .ok (.iadd, 1) := by decide +kernel
theorem dL_law_1871 : decode code 1871 = .ok (.iaload, 1) := by decide +kernel
theorem dL_law_1872 : decode code 1872 = .ok (.invokevirtual 226, 3) := by decide +kernel
theorem dL_law_1875 : decode code 1875 = .ok (.if_icmp .eq 286, 3) := by decide +kernel
theorem dL_law_1878 : decode code 1878 = .ok (.iconst 0, 1) := by decide +kernel
theorem dL_law_1879 : decode code 1879 = .ok (.ireturn, 1) := by decide +kernel
theorem dL_law_1880 : decode code 1880 = .ok (.aload_n 1, 1) := by decide +kernel
theorem dL_law_1881 : decode code 1881 = .ok (.aload_n 0, 1) := by decide +kernel
theorem dL_law_1882 : decode code 1882 = .ok (.iload_n 3, 1) := by decide +kernel
theorem dL_law_1883 : decode code 1883 = .ok (.iconst 1, 1) := by decide +kernel
theorem dL_law_1884 : decode code 1884 = .ok (.iadd, 1) := by decide +kernel
theorem dL_law_1885 : decode code 1885 = .ok (.iaload, 1) := by decide +kernel
theorem dL_law_1886 : decode code 1886 = .ok (.aload_n 0, 1) := by decide +kernel
theorem dL_law_1887 : decode code 1887 = .ok (.iload_n 3, 1) := by decide +kernel
theorem dL_law_1888 : decode code 1888 = .ok (.iconst 2, 1) := by decide +kernel
theorem dL_law_1889 : decode code 1889 = .ok (.iadd, 1) := by decide +kernel
theorem dL_law_1890 : decode code 1890 = .ok (.iaload, 1) := by decide +kernel
theorem dL_law_1891 : decode code 1891 = .ok (.invokevirtual 227, 3) := by decide +kernel
theorem dL_law_1894 : decode code 1894 = .ok (.aload_n 2, 1) := by decide +kernel
theorem dL_law_1895 : decode code 1895 = .ok (.aload_n 0, 1) := by decide +kernel
theorem dL_law_1896 : decode code 1896 = .ok (.iload_n 3, 1) := by decide +kernel
theorem dL_law_1897 : decode code 1897 = .ok (.iconst 1, 1) := by decide +kernel
theorem dL_law_1898 : decode code 1898 = .ok (.iadd, 1) := by decide +kernel
theorem dL_law_1899 : decode code 1899 = .ok (.iaload, 1) := by decide +kernel
theorem dL_law_1900 : decode code 1900 = .ok (.aload_n 0, 1) := by decide +kernel
theorem dL_law_1901 : decode code 1901 = .ok (.iload_n 3, 1) := by decide +kernel
theorem dL_law_1902 : decode code 1902 = .ok (.iconst 2, 1) := by decide +kernel
theorem dL_law_1903 : decode code 1903 = .ok (.iadd, 1) := by decide +kernel
theorem dL_law_1904 : decode code 1904 = .ok (.iaload, 1) := by decide +kernel
theorem dL_law_1905 : decode code 1905 = .ok (.invokevirtual 230, 3) := by decide +kernel
theorem dL_law_1908 : decode code 1908 = .ok (.if_icmp .eq 253, 3) := by decide +kernel
theorem dL_law_1911 : decode code 1911 = .ok (.iconst 0, 1) := by decide +kernel
theorem dL_law_1912 : decode code 1912 = .ok (.ireturn, 1) := by decide +kernel
theorem dL_law_1913 : decode code 1913 = .ok (.aload_n 1, 1) := by decide +kernel
theorem dL_law_1914 : decode code 1914 = .ok (.aload_n 0, 1) := by decide +kernel
theorem dL_law_1915 : decode code 1915 = .ok (.iload_n 3, 1) := by decide +kernel
theorem dL_law_1916 : decode code 1916 = .ok (.iconst 1, 1) := by decide +kernel
theorem dL_law_1917 : decode code 1917 = .ok (.iadd, 1) := by decide +kernel
theorem dL_law_1918 : decode code 1918 = .ok (.iaload, 1) := by decide +kernel
theorem dL_law_1919 : decode code 1919 = .ok (.invokevirtual 231, 3) := by decide +kernel
theorem dL_law_1922 : decode code 1922 = .ok (.aload_n 2, 1) := by decide +kernel
theorem dL_law_1923 : decode code 1923 = .ok (.aload_n 0, 1) := by decide +kernel
theorem dL_law_1924 : decode code 1924 = .ok (.iload_n 3, 1) := by decide +kernel
theorem dL_law_1925 : decode code 1925 = .ok (.iconst 1, 1) := by decide +kernel
theorem dL_law_1926 : decode code 1926 = .ok (.iadd, 1) := by decide +kernel
theorem dL_law_1927 : decode code 1927 = .ok (.iaload, 1) := by decide +kernel
theorem dL_law_1928 : decode code 1928 = .ok (.invokevirtual 234, 3) := by decide +kernel
theorem dL_law_1931 : decode code 1931 = .ok (.if_icmp .eq 230, 3) := by decide +kernel
theorem dL_law_1934 : decode code 1934 = .ok (.iconst 0, 1) := by decide +kernel
theorem dL_law_1935 : decode code 1935 = .ok (.ireturn, 1) := by decide +kernel
theorem dL_law_1936 : decode code 1936 = .ok (.aload_n 1, 1) := by decide +kernel
theorem dL_law_1937 : decode code 1937 = .ok (.aload_n 0, 1) := by decide +kernel
theorem dL_law_1938 : decode code 1938 = .ok (.iload_n 3, 1) := by decide +kernel
theorem dL_law_1939 : decode code 1939 = .ok (.iconst 1, 1) := by decide +kernel
theorem dL_law_1940 : decode code 1940 = .ok (.iadd, 1) := by decide +kernel
theorem dL_law_1941 : decode code 1941 = .ok (.iaload, 1) := by decide +kernel
theorem dL_law_1942 : decode code 1942 = .ok (.invokevirtual 235, 3) := by decide +kernel
theorem dL_law_1945 : decode code 1945 = .ok (.aload_n 2, 1) := by decide +kernel
theorem dL_law_1946 : decode code 1946 = .ok (.aload_n 0, 1) := by decide +kernel
theorem dL_law_1947 : decode code 1947 = .ok (.iload_n 3, 1) := by decide +kernel
theorem dL_law_1948 : decode code 1948 = .ok (.iconst 1, 1) := by decide +kernel
theorem dL_law_1949 : decode code 1949 = .ok (.iadd, 1) := by decide +kernel
theorem dL_law_1950 : decode code 1950 = .ok (.iaload, 1) := by decide +kernel
theorem dL_law_1951 : decode code 1951 = .ok (.invokevirtual 238, 3) := by decide +kernel
theorem dL_law_1954 : decode code 1954 = .ok (.if_icmp .eq 207, 3) := by decide +kernel
theorem dL_law_1957 : decode code 1957 = .ok (.iconst 0, 1) := by decide +kernel
theorem dL_law_1958 : decode code 1958 = .ok (.ireturn, 1) := by decide +kernel
theorem dL_law_1959 : decode code 1959 = .ok (.aload_n 1, 1) := by decide +kernel
theorem dL_law_1960 : decode code 1960 = .ok (.aload_n 0, 1) := by decide +kernel
theorem dL_law_1961 : decode code 1961 = .ok (.iload_n 3, 1) := by decide +kernel
theorem dL_law_1962 : decode code 1962 = .ok (.iconst 1, 1) := by decide +kernel
theorem dL_law_1963 : decode code 1963 = .ok (.iadd, 1) := by decide +kernel
theorem dL_law_1964 : decode code 1964 = .ok (.iaload, 1) := by decide +kernel
theorem dL_law_1965 : decode code 1965 = .ok (.invokevirtual 239, 3) := by decide +kernel
theorem dL_law_1968 : decode code 1968 = .ok (.aload_n 2, 1) := by decide +kernel
theorem dL_law_1969 : decode code 1969 = .ok (.aload_n 0, 1) := by decide +kernel
theorem dL_law_1970 : decode code 1970 = .ok (.iload_n 3, 1) := by decide +kernel
theorem dL_law_1971 : decode code 1971 = .ok (.iconst 1, 1) := by decide +kernel
theorem dL_law_1972 : decode code 1972 = .ok (.iadd, 1) := by decide +kernel
theorem dL_law_1973 : decode code 1973 = .ok (.iaload, 1) := by decide +kernel
theorem dL_law_1974 : decode code 1974 = .ok (.invokevirtual 242, 3) := by decide +kernel
theorem dL_law_1977 : decode code 1977 = .ok (.if_icmp .eq 184, 3) := by decide +kernel
theorem dL_law_1980 : decode code 1980 = .ok (.iconst 0, 1) := by decide +kernel
theorem dL_law_1981 : decode code 1981 = .ok (.ireturn, 1) := by decide +kernel
theorem dL_law_1982 : decode code 1982 = .ok (.aload_n 1, 1) := by decide +kernel
theorem dL_law_1983 : decode code 1983 = .ok (.aload_n 0, 1) := by decide +kernel
theorem dL_law_1984 : decode code 1984 = .ok (.iload_n 3, 1) := by decide +kernel
theorem dL_law_1985 : decode code 1985 = .ok (.iconst 1, 1) := by decide +kernel
theorem dL_law_1986 : decode code 1986 = .ok (.iadd, 1) := by decide +kernel
theorem dL_law_1987 : decode code 1987 = .ok (.iaload, 1) := by decide +kernel
theorem dL_law_1988 : decode code 1988 = .ok (.aload_n 0, 1) := by decide +kernel
theorem dL_law_1989 : decode code 1989 = .ok (.iload_n 3, 1) := by decide +kernel
theorem dL_law_1990 : decode code 1990 = .ok (.iconst 2, 1) := by decide +kernel
theorem dL_law_1991 : decode code 1991 = .ok (.iadd, 1) := by decide +kernel
theorem dL_law_1992 : decode code 1992 = .ok (.iaload, 1) := by decide +kernel
theorem dL_law_1993 : decode code 1993 = .ok (.aload_n 0, 1) := by decide +kernel
theorem dL_law_1994 : decode code 1994 = .ok (.iload_n 3, 1) := by decide +kernel
theorem dL_law_1995 : decode code 1995 = .ok (.iconst 3, 1) := by decide +kernel
theorem dL_law_1996 : decode code 1996 = .ok (.iadd, 1) := by decide +kernel
theorem dL_law_1997 : decode code 1997 = .ok (.iaload, 1) := by decide +kernel
theorem dL_law_1998 : decode code 1998 = .ok (.invokevirtual 243, 3) := by decide +kernel
theorem dL_law_2001 : decode code 2001 = .ok (.aload_n 2, 1) := by decide +kernel
theorem dL_law_2002 : decode code 2002 = .ok (.aload_n 0, 1) := by decide +kernel
theorem dL_law_2003 : decode code 2003 = .ok (.iload_n 3, 1) := by decide +kernel
theorem dL_law_2004 : decode code 2004 = .ok (.iconst 1, 1) := by decide +kernel
theorem dL_law_2005 : decode code 2005 = .ok (.iadd, 1) := by decide +kernel
theorem dL_law_2006 : decode code 2006 = .ok (.iaload, 1) := by decide +kernel
theorem dL_law_2007 : decode code 2007 = .ok (.aload_n 0, 1) := by decide +kernel
theorem dL_law_2008 : decode code 2008 = .ok (.iload_n 3, 1) := by decide +kernel
theorem dL_law_2009 : decode code 2009 = .ok (.iconst 2, 1) := by decide +kernel
theorem dL_law_2010 : decode code 2010 = .ok (.iadd, 1) := by decide +kernel
theorem dL_law_2011 : decode code 2011 = .ok (.iaload, 1) := by decide +kernel
theorem dL_law_2012 : decode code 2012 = .ok (.aload_n 0, 1) := by decide +kernel
theorem dL_law_2013 : decode code 2013 = .ok (.iload_n 3, 1) := by decide +kernel
theorem dL_law_2014 : decode code 2014 = .ok (.iconst 3, 1) := by decide +kernel
theorem dL_law_2015 : decode code 2015 = .ok (.iadd, 1) := by decide +kernel
theorem dL_law_2016 : decode code 2016 = .ok (.iaload, 1) := by decide +kernel
theorem dL_law_2017 : decode code 2017 = .ok (.invokevirtual 246, 3) := by decide +kernel
theorem dL_law_2020 : decode code 2020 = .ok (.if_icmp .eq 141, 3) := by decide +kernel
theorem dL_law_2023 : decode code 2023 = .ok (.iconst 0, 1) := by decide +kernel
theorem dL_law_2024 : decode code 2024 = .ok (.ireturn, 1) := by decide +kernel
theorem dL_law_2025 : decode code 2025 = .ok (.aload_n 1, 1) := by decide +kernel
theorem dL_law_2026 : decode code 2026 = .ok (.aload_n 0, 1) := by decide +kernel
theorem dL_law_2027 : decode code 2027 = .ok (.iload_n 3, 1) := by decide +kernel
theorem dL_law_2028 : decode code 2028 = .ok (.iconst 1, 1) := by decide +kernel
theorem dL_law_2029 : decode code 2029 = .ok (.iadd, 1) := by decide +kernel
theorem dL_law_2030 : decode code 2030 = .ok (.iaload, 1) := by decide +kernel
theorem dL_law_2031 : decode code 2031 = .ok (.aload_n 0, 1) := by decide +kernel
theorem dL_law_2032 : decode code 2032 = .ok (.iload_n 3, 1) := by decide +kernel
theorem dL_law_2033 : decode code 2033 = .ok (.iconst 2, 1) := by decide +kernel
theorem dL_law_2034 : decode code 2034 = .ok (.iadd, 1) := by decide +kernel
theorem dL_law_2035 : decode code 2035 = .ok (.iaload, 1) := by decide +kernel
theorem dL_law_2036 : decode code 2036 = .ok (.aload_n 0, 1) := by decide +kernel
theorem dL_law_2037 : decode code 2037 = .ok (.iload_n 3, 1) := by decide +kernel
theorem dL_law_2038 : decode code 2038 = .ok (.iconst 3, 1) := by decide +kernel
theorem dL_law_2039 : decode code 2039 = .ok (.iadd, 1) := by decide +kernel
theorem dL_law_2040 : decode code 2040 = .ok (.iaload, 1) := by decide +kernel
theorem dL_law_2041 : decode code 2041 = .ok (.i2l, 1) := by decide +kernel
theorem dL_law_2042 : decode code 2042 = .ok (.bipush 32, 2) := by decide +kernel
theorem dL_law_2044 : decode code 2044 = .ok (.lshl, 1) := by decide +kernel
theorem dL_law_2045 : decode code 2045 = .ok (.aload_n 0, 1) := by decide +kernel
theorem dL_law_2046 : decode code 2046 = .ok (.iload_n 3, 1) := by decide +kernel
theorem dL_law_2047 : decode code 2047 = .ok (.iconst 4, 1) := by decide +kernel
theorem dL_law_2048 : decode code 2048 = .ok (.iadd, 1) := by decide +kernel
theorem dL_law_2049 : decode code 2049 = .ok (.iaload, 1) := by decide +kernel
theorem dL_law_2050 : decode code 2050 = .ok (.i2l, 1) := by decide +kernel
theorem dL_law_2051 : decode code 2051 = .ok (.ldc2_w 247, 3) := by decide +kernel
theorem dL_law_2054 : decode code 2054 = .ok (.land, 1) := by decide +kernel
theorem dL_law_2055 : decode code 2055 = .ok (.lor, 1) := by decide +kernel
theorem dL_law_2056 : decode code 2056 = .ok (.invokevirtual 249, 3) := by decide +kernel
theorem dL_law_2059 : decode code 2059 = .ok (.aload_n 2, 1) := by decide +kernel
theorem dL_law_2060 : decode code 2060 = .ok (.aload_n 0, 1) := by decide +kernel
theorem dL_law_2061 : decode code 2061 = .ok (.iload_n 3, 1) := by decide +kernel
theorem dL_law_2062 : decode code 2062 = .ok (.iconst 1, 1) := by decide +kernel
theorem dL_law_2063 : decode code 2063 = .ok (.iadd, 1) := by decide +kernel
theorem dL_law_2064 : decode code 2064 = .ok (.iaload, 1) := by decide +kernel
theorem dL_law_2065 : decode code 2065 = .ok (.aload_n 0, 1) := by decide +kernel
theorem dL_law_2066 : decode code 2066 = .ok (.iload_n 3, 1) := by decide +kernel
theorem dL_law_2067 : decode code 2067 = .ok (.iconst 2, 1) := by decide +kernel
theorem dL_law_2068 : decode code 2068 = .ok (.iadd, 1) := by decide +kernel
theorem dL_law_2069 : decode code 2069 = .ok (.iaload, 1) := by decide +kernel
theorem dL_law_2070 : decode code 2070 = .ok (.aload_n 0, 1) := by decide +kernel
theorem dL_law_2071 : decode code 2071 = .ok (.iload_n 3, 1) := by decide +kernel
theorem dL_law_2072 : decode code 2072 = .ok (.iconst 3, 1) := by decide +kernel
theorem dL_law_2073 : decode code 2073 = .ok (.iadd, 1) := by decide +kernel
theorem dL_law_2074 : decode code 2074 = .ok (.iaload, 1) := by decide +kernel
theorem dL_law_2075 : decode code 2075 = .ok (.i2l, 1) := by decide +kernel
theorem dL_law_2076 : decode code 2076 = .ok (.bipush 32, 2) := by decide +kernel
theorem dL_law_2078 : decode code 2078 = .ok (.lshl, 1) := by decide +kernel
theorem dL_law_2079 : decode code 2079 = .ok (.aload_n 0, 1) := by decide +kernel
theorem dL_law_2080 : decode code 2080 = .ok (.iload_n 3, 1) := by decide +kernel
theorem dL_law_2081 : decode code 2081 = .ok (.iconst 4, 1) := by decide +kernel
theorem dL_law_2082 : decode code 2082 = .ok (.iadd, 1) := by decide +kernel
theorem dL_law_2083 : decode code 2083 = .ok (.iaload, 1) := by decide +kernel
theorem dL_law_2084 : decode code 2084 = .ok (.i2l, 1) := by decide +kernel
theorem dL_law_2085 : decode code 2085 = .ok (.ldc2_w 247, 3) := by decide +kernel
theorem dL_law_2088 : decode code 2088 = .ok (.land, 1) := by decide +kernel
theorem dL_law_2089 : decode code 2089 = .ok (.lor, 1) := by decide +kernel
theorem dL_law_2090 : decode code 2090 = .ok (.invokevirtual 253, 3) := by decide +kernel
theorem dL_law_2093 : decode code 2093 = .ok (.if_icmp .eq 68, 3) := by decide +kernel
theorem dL_law_2096 : decode code 2096 = .ok (.iconst 0, 1) := by decide +kernel
theorem dL_law_2097 : decode code 2097 = .ok (.ireturn, 1) := by decide +kernel
theorem dL_law_2098 : decode code 2098 = .ok (.aload_n 1, 1) := by decide +kernel
theorem dL_law_2099 : decode code 2099 = .ok (.aload_n 0, 1) := by decide +kernel
theorem dL_law_2100 : decode code 2100 = .ok (.iload_n 3, 1) := by decide +kernel
theorem dL_law_2101 : decode code 2101 = .ok (.iconst 1, 1) := by decide +kernel
theorem dL_law_2102 : decode code 2102 = .ok (.iadd, 1) := by decide +kernel
theorem dL_law_2103 : decode code 2103 = .ok (.iaload, 1) := by decide +kernel
theorem dL_law_2104 : decode code 2104 = .ok (.aload_n 0, 1) := by decide +kernel
theorem dL_law_2105 : decode code 2105 = .ok (.iload_n 3, 1) := by decide +kernel
theorem dL_law_2106 : decode code 2106 = .ok (.iconst 2, 1) := by decide +kernel
theorem dL_law_2107 : decode code 2107 = .ok (.iadd, 1) := by decide +kernel
theorem dL_law_2108 : decode code 2108 = .ok (.iaload, 1) := by decide +kernel
theorem dL_law_2109 : decode code 2109 = .ok (.aload_n 0, 1) := by decide +kernel
theorem dL_law_2110 : decode code 2110 = .ok (.iload_n 3, 1) := by decide +kernel
theorem dL_law_2111 : decode code 2111 = .ok (.iconst 3, 1) := by decide +kernel
theorem dL_law_2112 : decode code 2112 = .ok (.iadd, 1) := by decide +kernel
theorem dL_law_2113 : decode code 2113 = .ok (.iaload, 1) := by decide +kernel
theorem dL_law_2114 : decode code 2114 = .ok (.aload_n 0, 1) := by decide +kernel
theorem dL_law_2115 : decode code 2115 = .ok (.iload_n 3, 1) := by decide +kernel
theorem dL_law_2116 : decode code 2116 = .ok (.iconst 4, 1) := by decide +kernel
theorem dL_law_2117 : decode code 2117 = .ok (.iadd, 1) := by decide +kernel
theorem dL_law_2118 : decode code 2118 = .ok (.iaload, 1) := by decide +kernel
theorem dL_law_2119 : decode code 2119 = .ok (.aload_n 0, 1) := by decide +kernel
theorem dL_law_2120 : decode code 2120 = .ok (.iload_n 3, 1) := by decide +kernel
theorem dL_law_2121 : decode code 2121 = .ok (.iconst 5, 1) := by decide +kernel
theorem dL_law_2122 : decode code 2122 = .ok (.iadd, 1) := by decide +kernel
theorem dL_law_2123 : decode code 2123 = .ok (.iaload, 1) := by decide +kernel
theorem dL_law_2124 : decode code 2124 = .ok (.invokevirtual 254, 3) := by decide +kernel
theorem dL_law_2127 : decode code 2127 = .ok (.aload_n 2, 1) := by decide +kernel
theorem dL_law_2128 : decode code 2128 = .ok (.aload_n 0, 1) := by decide +kernel
theorem dL_law_2129 : decode code 2129 = .ok (.iload_n 3, 1) := by decide +kernel
theorem dL_law_2130 : decode code 2130 = .ok (.iconst 1, 1) := by decide +kernel
theorem dL_law_2131 : decode code 2131 = .ok (.iadd, 1) := by decide +kernel
theorem dL_law_2132 : decode code 2132 = .ok (.iaload, 1) := by decide +kernel
theorem dL_law_2133 : decode code 2133 = .ok (.aload_n 0, 1) := by decide +kernel
theorem dL_law_2134 : decode code 2134 = .ok (.iload_n 3, 1) := by decide +kernel
theorem dL_law_2135 : decode code 2135 = .ok (.iconst 2, 1) := by decide +kernel
theorem dL_law_2136 : decode code 2136 = .ok (.iadd, 1) := by decide +kernel
theorem dL_law_2137 : decode code 2137 = .ok (.iaload, 1) := by decide +kernel
theorem dL_law_2138 : decode code 2138 = .ok (.aload_n 0, 1) := by decide +kernel
theorem dL_law_2139 : decode code 2139 = .ok (.iload_n 3, 1) := by decide +kernel
theorem dL_law_2140 : decode code 2140 = .ok (.iconst 3, 1) := by decide +kernel
theorem dL_law_2141 : decode code 2141 = .ok (.iadd, 1) := by decide +kernel
theorem dL_law_2142 : decode code 2142 = .ok (.iaload, 1) := by decide +kernel
theorem dL_law_2143 : decode code 2143 = .ok (.aload_n 0, 1) := by decide +kernel
theorem dL_law_2144 : decode code 2144 = .ok (.iload_n 3, 1) := by decide +kernel
theorem dL_law_2145 : decode code 2145 = .ok (.iconst 4, 1) := by decide +kernel
theorem dL_law_2146 : decode code 2146 = .ok (.iadd, 1) := by decide +kernel
theorem dL_law_2147 : decode code 2147 = .ok (.iaload, 1) := by decide +kernel
theorem dL_law_2148 : decode code 2148 = .ok (.aload_n 0, 1) := by decide +kernel
theorem dL_law_2149 : decode code 2149 = .ok (.iload_n 3, 1) := by decide +kernel
theorem dL_law_2150 : decode code 2150 = .ok (.iconst 5, 1) := by decide +kernel
theorem dL_law_2151 : decode code 2151 = .ok (.iadd, 1) := by decide +kernel
theorem dL_law_2152 : decode code 2152 = .ok (.iaload, 1) := by decide +kernel
theorem dL_law_2153 : decode code 2153 = .ok (.invokevirtual 257, 3) := by decide +kernel
theorem dL_law_2156 : decode code 2156 = .ok (.if_icmp .eq 5, 3) := by decide +kernel
theorem dL_law_2159 : decode code 2159 = .ok (.iconst 0, 1) := by decide +kernel
theorem dL_law_2160 : decode code 2160 = .ok (.ireturn, 1) := by decide +kernel
theorem dL_law_2161 : decode code 2161 = .ok (.iinc 3 6, 3) := by decide +kernel
theorem dL_law_2164 : decode code 2164 = .ok (.goto (-2146), 3) := by decide +kernel
theorem dL_law_2167 : decode code 2167 = .ok (.iconst 1, 1) := by decide +kernel
theorem dL_law_2168 : decode code 2168 = .ok (.ireturn, 1) := by decide +kernel
