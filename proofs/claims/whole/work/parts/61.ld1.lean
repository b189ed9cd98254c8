theorem d_L_law_317 : decode code 317 = .ok (.iadd, 1) := by decide +kernel
theorem d_L_law_318 : decode code 318 = .ok (.iaload, 1) := by decide +kernel
theorem d_L_law_319 : decode code 319 = .ok (.aload_n 3, 1) := by decide +kernel
theorem d_L_law_320 : decode code 320 = .ok (.invokestatic 86, 3) := by decide +kernel
theorem d_L_law_323 : decode code 323 = .ok (.istore 5, 2) := by decide +kernel
theorem d_L_law_325 : decode code 325 = .ok (.aload_n 2, 1) := by decide +kernel
theorem d_L_law_326 : decode code 326 = .ok (.aload_n 0, 1) := by decide +kernel
theorem d_L_law_327 : decode code 327 = .ok (.iload 4, 2) := by decide +kernel
theorem d_L_law_329 : decode code 329 = .ok (.iconst 1, 1) := by decide +kernel
theorem d_L_law_330 : decode code 330 = .ok (.iadd, 1) := by decide +kernel
theorem d_L_law_331 : decode code 331 = .ok (.iaload, 1) := by decide +kernel
theorem d_L_law_332 : decode code 332 = .ok (.invokevirtual 88, 3) := by decide +kernel
theorem d_L_law_335 : decode code 335 = .ok (.istore 6, 2) := by decide +kernel
theorem d_L_law_337 : decode code 337 = .ok (.aload_n 2, 1) := by decide +kernel
theorem d_L_law_338 : decode code 338 = .ok (.invokevirtual 75, 3) := by decide +kernel
theorem d_L_law_341 : decode code 341 = .ok (.iload 5, 2) := by decide +kernel
theorem d_L_law_343 : decode code 343 = .ok (.if_icmp .eq 5, 3) := by decide +kernel
theorem d_L_law_346 : decode code 346 = .ok (.iconst 0, 1) := by decide +kernel
theorem d_L_law_347 : decode code 347 = .ok (.ireturn, 1) := by decide +kernel
theorem d_L_law_348 : decode code 348 = .ok (.iload 5, 2) := by decide +kernel
theorem d_L_law_350 : decode code 350 = .ok (.ifCond .ne 15, 3) := by decide +kernel
theorem d_L_law_353 : decode code 353 = .ok (.aload_n 3, 1) := by decide +kernel
theorem d_L_law_354 : decode code 354 = .ok (.iconst 0, 1) := by decide +kernel
theorem d_L_law_355 : decode code 355 = .ok (.laload, 1) := by decide +kernel
theorem d_L_law_356 : decode code 356 = .ok (.iload 6, 2) := by decide +kernel
theorem d_L_law_358 : decode code 358 = .ok (.i2l, 1) := by decide +kernel
theorem d_L_law_359 : decode code 359 = .ok (.lcmp, 1) := by decide +kernel
theorem d_L_law_360 : decode code 360 = .ok (.ifCond .eq 5, 3) := by decide +kernel
theorem d_L_law_363 : decode code 363 = .ok (.iconst 0, 1) := by decide +kernel
theorem d_L_law_364 : decode code 364 = .ok (.ireturn, 1) := by decide +kernel
theorem d_L_law_365 : decode code 365 = .ok (.goto 633, 3) := by decide +kernel
theorem d_L_law_368 : decode code 368 = .ok (.aload_n 1, 1) := by decide +kernel
theorem d_L_law_369 : decode code 369 = .ok (.aload_n 0, 1) := by decide +kernel
theorem d_L_law_370 : decode code 370 = .ok (.iload 4, 2) := by decide +kernel
theorem d_L_law_372 : decode code 372 = .ok (.iconst 1, 1) := by decide +kernel
theorem d_L_law_373 : decode code 373 = .ok (.iadd, 1) := by decide +kernel
theorem d_L_law_374 : decode code 374 = .ok (.iaload, 1) := by decide +kernel
theorem d_L_law_375 : decode code 375 = .ok (.invokevirtual 89, 3) := by decide +kernel
theorem d_L_law_378 : decode code 378 = .ok (.aload_n 2, 1) := by decide +kernel
theorem d_L_law_379 : decode code 379 = .ok (.aload_n 0, 1) := by decide +kernel
theorem d_L_law_380 : decode code 380 = .ok (.iload 4, 2) := by decide +kernel
theorem d_L_law_382 : decode code 382 = .ok (.iconst 1, 1) := by decide +kernel
theorem d_L_law_383 : decode code 383 = .ok (.iadd, 1) := by decide +kernel
theorem d_L_law_384 : decode code 384 = .ok (.iaload, 1) := by decide +kernel
theorem d_L_law_385 : decode code 385 = .ok (.invokevirtual 92, 3) := by decide +kernel
theorem d_L_law_388 : decode code 388 = .ok (.if_icmp .eq 610, 3) := by decide +kernel
theorem d_L_law_391 : decode code 391 = .ok (.iconst 0, 1) := by decide +kernel
theorem d_L_law_392 : decode code 392 = .ok (.ireturn, 1) := by decide +kernel
theorem d_L_law_393 : decode code 393 = .ok (.aload_n 1, 1) := by decide +kernel
theorem d_L_law_394 : decode code 394 = .ok (.invokevirtual 93, 3) := by decide +kernel
theorem d_L_law_397 : decode code 397 = .ok (.aload_n 2, 1) := by decide +kernel
theorem d_L_law_398 : decode code 398 = .ok (.invokevirtual 97, 3) := by decide +kernel
theorem d_L_law_401 : decode code 401 = .ok (.if_icmp .eq 597, 3) := by decide +kernel
theorem d_L_law_404 : decode code 404 = .ok (.iconst 0, 1) := by decide +kernel
theorem d_L_law_405 : decode code 405 = .ok (.ireturn, 1) := by decide +kernel
theorem d_L_law_406 : decode code 406 = .ok (.aload_n 1, 1) := by decide +kernel
theorem d_L_law_407 : decode code 407 = .ok (.invokevirtual 98, 3) := by decide +kernel
theorem d_L_law_410 : decode code 410 = .ok (.aload_n 2, 1) := by decide +kernel
theorem d_L_law_411 : decode code 411 = .ok (.invokevirtual 101, 3) := by decide +kernel
theorem d_L_law_414 : decode code 414 = .ok (.if_icmp .eq 584, 3) := by decide +kernel
theorem d_L_law_417 : decode code 417 = .ok (.iconst 0, 1) := by decide +kernel
theorem d_L_law_418 : decode code 418 = .ok (.ireturn, 1) := by decide +kernel
theorem d_L_law_419 : decode code 419 = .ok (.aload_n 1, 1) := by decide +kernel
theorem d_L_law_420 : decode code 420 = .ok (.aload_n 0, 1) := by decide +kernel
theorem d_L_law_421 : decode code 421 = .ok (.iload 4, 2) := by decide +kernel
theorem d_L_law_423 : decode code 423 = .ok (.iconst 1, 1) := by decide +kernel
theorem d_L_law_424 : decode code 424 = .ok (.iadd, 1) := by decide +kernel
theorem d_L_law_425 : decode code 425 = .ok (.iaload, 1) := by decide +kernel
theorem d_L_law_426 : decode code 426 = .ok (.aload_n 0, 1) := by decide +kernel
theorem d_L_law_427 : decode code 427 = .ok (.iload 4, 2) := by decide +kernel
theorem d_L_law_429 : decode code 429 = .ok (.iconst 2, 1) := by decide +kernel
theorem d_L_law_430 : decode code 430 = .ok (.iadd, 1) := by decide +kernel
theorem d_L_law_431 : decode code 431 = .ok (.iaload, 1) := by decide +kernel
theorem d_L_law_432 : decode code 432 = .ok (.aload_n 3, 1) := by decide +kernel
theorem d_L_law_433 : decode code 433 = .ok (.invokestatic 102, 3) := by decide +kernel
theorem d_L_law_436 : decode code 436 = .ok (.istore 5, 2) := by decide +kernel
theorem d_L_law_438 : decode code 438 = .ok (.aload_n 2, 1) := by decide +kernel
theorem d_L_law_439 : decode code 439 = .ok (.aload_n 0, 1) := by decide +kernel
theorem d_L_law_440 : decode code 440 = .ok (.iload 4, 2) := by decide +kernel
theorem d_L_law_442 : decode code 442 = .ok (.iconst 1, 1) := by decide +kernel
theorem d_L_law_443 : decode code 443 = .ok (.iadd, 1) := by decide +kernel
theorem d_L_law_444 : decode code 444 = .ok (.iaload, 1) := by decide +kernel
theorem d_L_law_445 : decode code 445 = .ok (.aload_n 0, 1) := by decide +kernel
theorem d_L_law_446 : decode code 446 = .ok (.iload 4, 2) := by decide +kernel
theorem d_L_law_448 : decode code 448 = .ok (.iconst 2, 1) := by decide +kernel
theorem d_L_law_449 : decode code 449 = .ok (.iadd, 1) := by decide +kernel
theorem d_L_law_450 : decode code 450 = .ok (.iaload, 1) := by decide +kernel
theorem d_L_law_451 : decode code 451 = .ok (.invokevirtual 104, 3) := by decide +kernel
theorem d_L_law_454 : decode code 454 = .ok (.istore 6, 2) := by decide +kernel
theorem d_L_law_456 : decode code 456 = .ok (.aload_n 2, 1) := by decide +kernel
theorem d_L_law_457 : decode code 457 = .ok (.invokevirtual 75, 3) := by decide +kernel
theorem d_L_law_460 : decode code 460 = .ok (.iload 5, 2) := by decide +kernel
theorem d_L_law_462 : decode code 462 = .ok (.if_icmp .eq 5, 3) := by decide +kernel
theorem d_L_law_465 : decode code 465 = .ok (.iconst 0, 1) := by decide +kernel
theorem d_L_law_466 : decode code 466 = .ok (.ireturn, 1) := by decide +kernel
theorem d_L_law_467 : decode code 467 = .ok (.iload 5, 2) := by decide +kernel
theorem d_L_law_469 : decode code 469 = .ok (.ifCond .ne 22, 3) := by decide +kernel
theorem d_L_law_472 : decode code 472 = .ok (.aload_n 3, 1) := by decide +kernel
theorem d_L_law_473 : decode code 473 = .ok (.iconst 0, 1) := by decide +kernel
theorem d_L_law_474 : decode code 474 = .ok (.laload, 1) := by decide +kernel
theorem d_L_law_475 : decode code 475 = .ok (.iload 6, 2) := by decide +kernel
theorem d_L_law_477 : decode code 477 = .ok (.ifCond .eq 7, 3) := by decide +kernel
theorem d_L_law_480 : decode code 480 = .ok (.lconst 1, 1) := by decide +kernel
theorem d_L_law_481 : decode code 481 = .ok (.goto 4, 3) := by decide +kernel
theorem d_L_law_484 : decode code 484 = .ok (.lconst 0, 1) := by decide +kernel
theorem d_L_law_485 : decode code 485 = .ok (.lcmp, 1) := by decide +kernel
theorem d_L_law_486 : decode code 486 = .ok (.ifCond .eq 5, 3) := by decide +kernel
theorem d_L_law_489 : decode code 489 = .ok (.iconst 0, 1) := by decide +kernel
theorem d_L_law_490 : decode code 490 = .ok (.ireturn, 1) := by decide +kernel
theorem d_L_law_491 : decode code 491 = .ok (.goto 507, 3) := by decide +kernel
theorem d_L_law_494 : decode code 494 = .ok (.aload_n 1, 1) := by decide +kernel
theorem d_L_law_495 : decode code 495 = .ok (.aload_n 0, 1) := by decide +kernel
theorem d_L_law_496 : decode code 496 = .ok (.iload 4, 2) := by decide +kernel
theorem d_L_law_498 : decode code 498 = .ok (.iconst 1, 1) := by decide +kernel
theorem d_L_law_499 : decode code 499 = .ok (.iadd, 1) := by decide +kernel
theorem d_L_law_500 : decode code 500 = .ok (.iaload, 1) := by decide +kernel
theorem d_L_law_501 : decode code 501 = .ok (.aload_n 0, 1) := by decide +kernel
theorem d_L_law_502 : decode code 502 = .ok (.iload 4, 2) := by decide +kernel
theorem d_L_law_504 : decode code 504 = .ok (.iconst 2, 1) := by decide +kernel
theorem d_L_law_505 : decode code 505 = .ok (.iadd, 1) := by decide +kernel
theorem d_L_law_506 : decode code 506 = .ok (.iaload, 1) := by decide +kernel
theorem d_L_law_507 : decode code 507 = .ok (.ifCond .eq 7, 3) := by decide +kernel
theorem d_L_law_510 : decode code 510 = .ok (.iconst 1, 1) := by decide +kernel
theorem d_L_law_511 : decode code 511 = .ok (.goto 4, 3) := by decide +kernel
theorem d_L_law_514 : decode code 514 = .ok (.iconst 0, 1) := by decide +kernel
theorem d_L_law_515 : decode code 515 = .ok (.aload_n 3, 1) := by decide +kernel
theorem d_L_law_516 : decode code 516 = .ok (.invokestatic 105, 3) := by decide +kernel
theorem d_L_law_519 : decode code 519 = .ok (.istore 5, 2) := by decide +kernel
theorem d_L_law_521 : decode code 521 = .ok (.aload_n 2, 1) := by decide +kernel
theorem d_L_law_522 : decode code 522 = .ok (.aload_n 0, 1) := by decide +kernel
theorem d_L_law_523 : decode code 523 = .ok (.iload 4, 2) := by decide +kernel
theorem d_L_law_525 : decode code 525 = .ok (.iconst 1, 1) := by decide +kernel
theorem d_L_law_526 : decode code 526 = .ok (.iadd, 1) := by decide +kernel
theorem d_L_law_527 : decode code 527 = .ok (.iaload, 1) := by decide +kernel
theorem d_L_law_528 : decode code 528 = .ok (.aload_n 0, 1) := by decide +kernel
theorem d_L_law_529 : decode code 529 = .ok (.iload 4, 2) := by decide +kernel
theorem d_L_law_531 : decode code 531 = .ok (.iconst 2, 1) := by decide +kernel
theorem d_L_law_532 : decode code 532 = .ok (.iadd, 1) := by decide +kernel
theorem d_L_law_533 : decode code 533 = .ok (.iaload, 1) := by decide +kernel
theorem d_L_law_534 : decode code 534 = .ok (.ifCond .eq 7, 3) := by decide +kernel
theorem d_L_law_537 : decode code 537 = .ok (.iconst 1, 1) := by decide +kernel
theorem d_L_law_538 : decode code 538 = .ok (.goto 4, 3) := by decide +kernel
theorem d_L_law_541 : decode code 541 = .ok (.iconst 0, 1) := by decide +kernel
theorem d_L_law_542 : decode code 542 = .ok (.invokevirtual 108, 3) := by decide +kernel
theorem d_L_law_545 : decode code 545 = .ok (.istore 6, 2) := by decide +kernel
theorem d_L_law_547 : decode code 547 = .ok (.aload_n 2, 1) := by decide +kernel
theorem d_L_law_548 : decode code 548 = .ok (.invokevirtual 75, 3) := by decide +kernel
theorem d_L_law_551 : decode code 551 = .ok (.iload 5, 2) := by decide +kernel
theorem d_L_law_553 : decode code 553 = .ok (.if_icmp .eq 5, 3) := by decide +kernel
theorem d_L_law_556 : decode code 556 = .ok (.iconst 0, 1) := by decide +kernel
