theorem dL_build_311 : decode cL_build 311 = .ok (.iconst 1, 1) := by decide +kernel
theorem dL_build_312 : decode cL_build 312 = .ok (.iand, 1) := by decide +kernel
theorem dL_build_313 : decode cL_build 313 = .ok (.iload 4, 2) := by decide +kernel
theorem dL_build_315 : decode cL_build 315 = .ok (.bipush 24, 2) := by decide +kernel
theorem dL_build_317 : decode cL_build 317 = .ok (.ishr, 1) := by decide +kernel
theorem dL_build_318 : decode cL_build 318 = .ok (.bipush 7, 2) := by decide +kernel
theorem dL_build_320 : decode cL_build 320 = .ok (.iand, 1) := by decide +kernel
theorem dL_build_321 : decode cL_build 321 = .ok (.iload 5, 2) := by decide +kernel
theorem dL_build_323 : decode cL_build 323 = .ok (.irem, 1) := by decide +kernel
theorem dL_build_324 : decode cL_build 324 = .ok (.iconst 0, 1) := by decide +kernel
theorem dL_build_325 : decode cL_build 325 = .ok (.iconst 0, 1) := by decide +kernel
theorem dL_build_326 : decode cL_build 326 = .ok (.iconst 0, 1) := by decide +kernel
theorem dL_build_327 : decode cL_build 327 = .ok (.invokestatic 30, 3) := by decide +kernel
theorem dL_build_330 : decode cL_build 330 = .ok (.pop, 1) := by decide +kernel
theorem dL_build_331 : decode cL_build 331 = .ok (.iload 4, 2) := by decide +kernel
theorem dL_build_333 : decode cL_build 333 = .ok (.bipush 20, 2) := by decide +kernel
theorem dL_build_335 : decode cL_build 335 = .ok (.ishr, 1) := by decide +kernel
theorem dL_build_336 : decode cL_build 336 = .ok (.bipush 7, 2) := by decide +kernel
theorem dL_build_338 : decode cL_build 338 = .ok (.iand, 1) := by decide +kernel
theorem dL_build_339 : decode cL_build 339 = .ok (.iconst 3, 1) := by decide +kernel
theorem dL_build_340 : decode cL_build 340 = .ok (.if_icmp .ne 32, 3) := by decide +kernel
theorem dL_build_343 : decode cL_build 343 = .ok (.aload_n 1, 1) := by decide +kernel
theorem dL_build_344 : decode cL_build 344 = .ok (.bipush 7, 2) := by decide +kernel
theorem dL_build_346 : decode cL_build 346 = .ok (.iload 4, 2) := by decide +kernel
theorem dL_build_348 : decode cL_build 348 = .ok (.bipush 23, 2) := by decide +kernel
theorem dL_build_350 : decode cL_build 350 = .ok (.ishr, 1) := by decide +kernel
theorem dL_build_351 : decode cL_build 351 = .ok (.bipush 7, 2) := by decide +kernel
theorem dL_build_353 : decode cL_build 353 = .ok (.iand, 1) := by decide +kernel
theorem dL_build_354 : decode cL_build 354 = .ok (.iload 5, 2) := by decide +kernel
theorem dL_build_356 : decode cL_build 356 = .ok (.irem, 1) := by decide +kernel
theorem dL_build_357 : decode cL_build 357 = .ok (.iload 4, 2) := by decide +kernel
theorem dL_build_359 : decode cL_build 359 = .ok (.bipush 26, 2) := by decide +kernel
theorem dL_build_361 : decode cL_build 361 = .ok (.ishr, 1) := by decide +kernel
theorem dL_build_362 : decode cL_build 362 = .ok (.bipush 7, 2) := by decide +kernel
theorem dL_build_364 : decode cL_build 364 = .ok (.iand, 1) := by decide +kernel
theorem dL_build_365 : decode cL_build 365 = .ok (.iconst 0, 1) := by decide +kernel
theorem dL_build_366 : decode cL_build 366 = .ok (.iconst 0, 1) := by decide +kernel
theorem dL_build_367 : decode cL_build 367 = .ok (.iconst 0, 1) := by decide +kernel
theorem dL_build_368 : decode cL_build 368 = .ok (.invokestatic 30, 3) := by decide +kernel
theorem dL_build_371 : decode cL_build 371 = .ok (.pop, 1) := by decide +kernel
theorem dL_build_372 : decode cL_build 372 = .ok (.iload 4, 2) := by decide +kernel
theorem dL_build_374 : decode cL_build 374 = .ok (.bipush 20, 2) := by decide +kernel
theorem dL_build_376 : decode cL_build 376 = .ok (.ishr, 1) := by decide +kernel
theorem dL_build_377 : decode cL_build 377 = .ok (.bipush 15, 2) := by decide +kernel
theorem dL_build_379 : decode cL_build 379 = .ok (.iand, 1) := by decide +kernel
theorem dL_build_380 : decode cL_build 380 = .ok (.iconst 4, 1) := by decide +kernel
theorem dL_build_381 : decode cL_build 381 = .ok (.if_icmp .ne 25, 3) := by decide +kernel
theorem dL_build_384 : decode cL_build 384 = .ok (.aload_n 1, 1) := by decide +kernel
theorem dL_build_385 : decode cL_build 385 = .ok (.bipush 8, 2) := by decide +kernel
theorem dL_build_387 : decode cL_build 387 = .ok (.iload 4, 2) := by decide +kernel
theorem dL_build_389 : decode cL_build 389 = .ok (.bipush 24, 2) := by decide +kernel
theorem dL_build_391 : decode cL_build 391 = .ok (.ishr, 1) := by decide +kernel
theorem dL_build_392 : decode cL_build 392 = .ok (.bipush 7, 2) := by decide +kernel
theorem dL_build_394 : decode cL_build 394 = .ok (.iand, 1) := by decide +kernel
theorem dL_build_395 : decode cL_build 395 = .ok (.iload 5, 2) := by decide +kernel
theorem dL_build_397 : decode cL_build 397 = .ok (.irem, 1) := by decide +kernel
theorem dL_build_398 : decode cL_build 398 = .ok (.iconst 0, 1) := by decide +kernel
theorem dL_build_399 : decode cL_build 399 = .ok (.iconst 0, 1) := by decide +kernel
theorem dL_build_400 : decode cL_build 400 = .ok (.iconst 0, 1) := by decide +kernel
theorem dL_build_401 : decode cL_build 401 = .ok (.iconst 0, 1) := by decide +kernel
theorem dL_build_402 : decode cL_build 402 = .ok (.invokestatic 30, 3) := by decide +kernel
theorem dL_build_405 : decode cL_build 405 = .ok (.pop, 1) := by decide +kernel
theorem dL_build_406 : decode cL_build 406 = .ok (.iload 4, 2) := by decide +kernel
theorem dL_build_408 : decode cL_build 408 = .ok (.bipush 20, 2) := by decide +kernel
theorem dL_build_410 : decode cL_build 410 = .ok (.ishr, 1) := by decide +kernel
theorem dL_build_411 : decode cL_build 411 = .ok (.bipush 7, 2) := by decide +kernel
theorem dL_build_413 : decode cL_build 413 = .ok (.iand, 1) := by decide +kernel
theorem dL_build_414 : decode cL_build 414 = .ok (.iconst 5, 1) := by decide +kernel
theorem dL_build_415 : decode cL_build 415 = .ok (.if_icmp .ne 33, 3) := by decide +kernel
theorem dL_build_418 : decode cL_build 418 = .ok (.aload_n 1, 1) := by decide +kernel
theorem dL_build_419 : decode cL_build 419 = .ok (.bipush 10, 2) := by decide +kernel
theorem dL_build_421 : decode cL_build 421 = .ok (.iload 4, 2) := by decide +kernel
theorem dL_build_423 : decode cL_build 423 = .ok (.bipush 23, 2) := by decide +kernel
theorem dL_build_425 : decode cL_build 425 = .ok (.ishr, 1) := by decide +kernel
theorem dL_build_426 : decode cL_build 426 = .ok (.bipush 7, 2) := by decide +kernel
theorem dL_build_428 : decode cL_build 428 = .ok (.iand, 1) := by decide +kernel
theorem dL_build_429 : decode cL_build 429 = .ok (.bipush 6, 2) := by decide +kernel
theorem dL_build_431 : decode cL_build 431 = .ok (.irem, 1) := by decide +kernel
theorem dL_build_432 : decode cL_build 432 = .ok (.iconst 1, 1) := by decide +kernel
theorem dL_build_433 : decode cL_build 433 = .ok (.iload 4, 2) := by decide +kernel
theorem dL_build_435 : decode cL_build 435 = .ok (.bipush 26, 2) := by decide +kernel
theorem dL_build_437 : decode cL_build 437 = .ok (.ishr, 1) := by decide +kernel
theorem dL_build_438 : decode cL_build 438 = .ok (.iconst 3, 1) := by decide +kernel
theorem dL_build_439 : decode cL_build 439 = .ok (.iand, 1) := by decide +kernel
theorem dL_build_440 : decode cL_build 440 = .ok (.iadd, 1) := by decide +kernel
theorem dL_build_441 : decode cL_build 441 = .ok (.iconst 0, 1) := by decide +kernel
theorem dL_build_442 : decode cL_build 442 = .ok (.iconst 0, 1) := by decide +kernel
theorem dL_build_443 : decode cL_build 443 = .ok (.iconst 0, 1) := by decide +kernel
theorem dL_build_444 : decode cL_build 444 = .ok (.invokestatic 30, 3) := by decide +kernel
theorem dL_build_447 : decode cL_build 447 = .ok (.pop, 1) := by decide +kernel
theorem dL_build_448 : decode cL_build 448 = .ok (.iload 4, 2) := by decide +kernel
theorem dL_build_450 : decode cL_build 450 = .ok (.bipush 20, 2) := by decide +kernel
theorem dL_build_452 : decode cL_build 452 = .ok (.ishr, 1) := by decide +kernel
theorem dL_build_453 : decode cL_build 453 = .ok (.bipush 15, 2) := by decide +kernel
theorem dL_build_455 : decode cL_build 455 = .ok (.iand, 1) := by decide +kernel
theorem dL_build_456 : decode cL_build 456 = .ok (.bipush 6, 2) := by decide +kernel
theorem dL_build_458 : decode cL_build 458 = .ok (.if_icmp .ne 33, 3) := by decide +kernel
theorem dL_build_461 : decode cL_build 461 = .ok (.aload_n 1, 1) := by decide +kernel
theorem dL_build_462 : decode cL_build 462 = .ok (.bipush 11, 2) := by decide +kernel
theorem dL_build_464 : decode cL_build 464 = .ok (.iload 4, 2) := by decide +kernel
theorem dL_build_466 : decode cL_build 466 = .ok (.bipush 24, 2) := by decide +kernel
theorem dL_build_468 : decode cL_build 468 = .ok (.ishr, 1) := by decide +kernel
theorem dL_build_469 : decode cL_build 469 = .ok (.bipush 7, 2) := by decide +kernel
theorem dL_build_471 : decode cL_build 471 = .ok (.iand, 1) := by decide +kernel
theorem dL_build_472 : decode cL_build 472 = .ok (.bipush 6, 2) := by decide +kernel
theorem dL_build_474 : decode cL_build 474 = .ok (.irem, 1) := by decide +kernel
theorem dL_build_475 : decode cL_build 475 = .ok (.iconst 1, 1) := by decide +kernel
theorem dL_build_476 : decode cL_build 476 = .ok (.iload 4, 2) := by decide +kernel
theorem dL_build_478 : decode cL_build 478 = .ok (.bipush 27, 2) := by decide +kernel
theorem dL_build_480 : decode cL_build 480 = .ok (.ishr, 1) := by decide +kernel
theorem dL_build_481 : decode cL_build 481 = .ok (.iconst 3, 1) := by decide +kernel
theorem dL_build_482 : decode cL_build 482 = .ok (.iand, 1) := by decide +kernel
theorem dL_build_483 : decode cL_build 483 = .ok (.iadd, 1) := by decide +kernel
theorem dL_build_484 : decode cL_build 484 = .ok (.iconst 0, 1) := by decide +kernel
theorem dL_build_485 : decode cL_build 485 = .ok (.iconst 0, 1) := by decide +kernel
theorem dL_build_486 : decode cL_build 486 = .ok (.iconst 0, 1) := by decide +kernel
theorem dL_build_487 : decode cL_build 487 = .ok (.invokestatic 30, 3) := by decide +kernel
theorem dL_build_490 : decode cL_build 490 = .ok (.pop, 1) := by decide +kernel
theorem dL_build_491 : decode cL_build 491 = .ok (.iload 4, 2) := by decide +kernel
theorem dL_build_493 : decode cL_build 493 = .ok (.bipush 20, 2) := by decide +kernel
theorem dL_build_495 : decode cL_build 495 = .ok (.ishr, 1) := by decide +kernel
theorem dL_build_496 : decode cL_build 496 = .ok (.bipush 15, 2) := by decide +kernel
theorem dL_build_498 : decode cL_build 498 = .ok (.iand, 1) := by decide +kernel
theorem dL_build_499 : decode cL_build 499 = .ok (.bipush 12, 2) := by decide +kernel
theorem dL_build_501 : decode cL_build 501 = .ok (.if_icmp .ne 29, 3) := by decide +kernel
theorem dL_build_504 : decode cL_build 504 = .ok (.aload_n 1, 1) := by decide +kernel
theorem dL_build_505 : decode cL_build 505 = .ok (.iconst 5, 1) := by decide +kernel
theorem dL_build_506 : decode cL_build 506 = .ok (.iload 4, 2) := by decide +kernel
theorem dL_build_508 : decode cL_build 508 = .ok (.bipush 24, 2) := by decide +kernel
theorem dL_build_510 : decode cL_build 510 = .ok (.ishr, 1) := by decide +kernel
theorem dL_build_511 : decode cL_build 511 = .ok (.iconst 1, 1) := by decide +kernel
theorem dL_build_512 : decode cL_build 512 = .ok (.iand, 1) := by decide +kernel
theorem dL_build_513 : decode cL_build 513 = .ok (.iload 4, 2) := by decide +kernel
theorem dL_build_515 : decode cL_build 515 = .ok (.bipush 25, 2) := by decide +kernel
theorem dL_build_517 : decode cL_build 517 = .ok (.ishr, 1) := by decide +kernel
theorem dL_build_518 : decode cL_build 518 = .ok (.bipush 7, 2) := by decide +kernel
theorem dL_build_520 : decode cL_build 520 = .ok (.iand, 1) := by decide +kernel
theorem dL_build_521 : decode cL_build 521 = .ok (.iconst 5, 1) := by decide +kernel
theorem dL_build_522 : decode cL_build 522 = .ok (.irem, 1) := by decide +kernel
theorem dL_build_523 : decode cL_build 523 = .ok (.iconst 0, 1) := by decide +kernel
theorem dL_build_524 : decode cL_build 524 = .ok (.iconst 0, 1) := by decide +kernel
theorem dL_build_525 : decode cL_build 525 = .ok (.iconst 0, 1) := by decide +kernel
theorem dL_build_526 : decode cL_build 526 = .ok (.invokestatic 30, 3) := by decide +kernel
theorem dL_build_529 : decode cL_build 529 = .ok (.pop, 1) := by decide +kernel
theorem dL_build_530 : decode cL_build 530 = .ok (.iload 4, 2) := by decide +kernel
theorem dL_build_532 : decode cL_build 532 = .ok (.bipush 20, 2) := by decide +kernel
theorem dL_build_534 : decode cL_build 534 = .ok (.ishr, 1) := by decide +kernel
theorem dL_build_535 : decode cL_build 535 = .ok (.bipush 31, 2) := by decide +kernel
theorem dL_build_537 : decode cL_build 537 = .ok (.iand, 1) := by decide +kernel
theorem dL_build_538 : decode cL_build 538 = .ok (.bipush 7, 2) := by decide +kernel
theorem dL_build_540 : decode cL_build 540 = .ok (.if_icmp .ne 20, 3) := by decide +kernel
theorem dL_build_543 : decode cL_build 543 = .ok (.aload_n 1, 1) := by decide +kernel
theorem dL_build_544 : decode cL_build 544 = .ok (.iconst 0, 1) := by decide +kernel
theorem dL_build_545 : decode cL_build 545 = .ok (.iload 4, 2) := by decide +kernel
theorem dL_build_547 : decode cL_build 547 = .ok (.bipush 25, 2) := by decide +kernel
theorem dL_build_549 : decode cL_build 549 = .ok (.ishr, 1) := by decide +kernel
theorem dL_build_550 : decode cL_build 550 = .ok (.iconst 3, 1) := by decide +kernel
theorem dL_build_551 : decode cL_build 551 = .ok (.iand, 1) := by decide +kernel
theorem dL_build_552 : decode cL_build 552 = .ok (.iconst 0, 1) := by decide +kernel
theorem dL_build_553 : decode cL_build 553 = .ok (.iconst 0, 1) := by decide +kernel
theorem dL_build_554 : decode cL_build 554 = .ok (.iconst 0, 1) := by decide +kernel
theorem dL_build_555 : decode cL_build 555 = .ok (.iconst 0, 1) := by decide +kernel
theorem dL_build_556 : decode cL_build 556 = .ok (.invokestatic 30, 3) := by decide +kernel
theorem dL_build_559 : decode cL_build 559 = .ok (.pop, 1) := by decide +kernel
theorem dL_build_560 : decode cL_build 560 = .ok (.iload 4, 2) := by decide +kernel
theorem dL_build_562 : decode cL_build 562 = .ok (.bipush 20, 2) := by decide +kernel
theorem dL_build_564 : decode cL_build 564 = .ok (.ishr, 1) := by decide +kernel
theorem dL_build_565 : decode cL_build 565 = .ok (.bipush 15, 2) := by decide +kernel
theorem dL_build_567 : decode cL_build 567 = .ok (.iand, 1) := by decide +kernel
theorem dL_build_568 : decode cL_build 568 = .ok (.bipush 14, 2) := by decide +kernel
theorem dL_build_570 : decode cL_build 570 = .ok (.if_icmp .ne 31, 3) := by decide +kernel
theorem dL_build_573 : decode cL_build 573 = .ok (.aload_n 1, 1) := by decide +kernel
theorem dL_build_574 : decode cL_build 574 = .ok (.bipush 6, 2) := by decide +kernel
theorem dL_build_576 : decode cL_build 576 = .ok (.iload 4, 2) := by decide +kernel
theorem dL_build_578 : decode cL_build 578 = .ok (.bipush 24, 2) := by decide +kernel
theorem dL_build_580 : decode cL_build 580 = .ok (.ishr, 1) := by decide +kernel
theorem dL_build_581 : decode cL_build 581 = .ok (.iconst 1, 1) := by decide +kernel
theorem dL_build_582 : decode cL_build 582 = .ok (.iand, 1) := by decide +kernel
theorem dL_build_583 : decode cL_build 583 = .ok (.iload 4, 2) := by decide +kernel
theorem dL_build_585 : decode cL_build 585 = .ok (.bipush 25, 2) := by decide +kernel
theorem dL_build_587 : decode cL_build 587 = .ok (.ishr, 1) := by decide +kernel
theorem dL_build_588 : decode cL_build 588 = .ok (.bipush 7, 2) := by decide +kernel
theorem dL_build_590 : decode cL_build 590 = .ok (.iand, 1) := by decide +kernel
theorem dL_build_591 : decode cL_build 591 = .ok (.iload 5, 2) := by decide +kernel
theorem dL_build_593 : decode cL_build 593 = .ok (.irem, 1) := by decide +kernel
theorem dL_build_594 : decode cL_build 594 = .ok (.iconst 0, 1) := by decide +kernel
theorem dL_build_595 : decode cL_build 595 = .ok (.iconst 0, 1) := by decide +kernel
theorem dL_build_596 : decode cL_build 596 = .ok (.iconst 0, 1) := by decide +kernel
theorem dL_build_597 : decode cL_build 597 = .ok (.invokestatic 30, 3) := by decide +kernel
theorem dL_build_600 : decode cL_build 600 = .ok (.pop, 1) := by decide +kernel
theorem dL_build_601 : decode cL_build 601 = .ok (.iinc 3 1, 3) := by decide +kernel
theorem dL_build_604 : decode cL_build 604 = .ok (.goto (-498), 3) := by decide +kernel
theorem dL_build_607 : decode cL_build 607 = .ok (.aload_n 1, 1) := by decide +kernel
theorem dL_build_608 : decode cL_build 608 = .ok (.areturn, 1) := by decide +kernel
theorem dL_act_0 : decode cL_act 0 = .ok (.iload_n 1, 1) := by decide +kernel
theorem dL_act_1 : decode cL_act 1 = .ok (.tableswitch 147 0 10 #[59, 65, 87, 93, 99, 106, 113, 120, 127, 133, 140], 59) := by decide +kernel
theorem dL_act_60 : decode cL_act 60 = .ok (.aload_n 0, 1) := by decide +kernel
theorem dL_act_61 : decode cL_act 61 = .ok (.iload_n 2, 1) := by decide +kernel
theorem dL_act_62 : decode cL_act 62 = .ok (.invokevirtual 44, 3) := by decide +kernel
theorem dL_act_65 : decode cL_act 65 = .ok (.ireturn, 1) := by decide +kernel
theorem dL_act_66 : decode cL_act 66 = .ok (.aload_n 0, 1) := by decide +kernel
theorem dL_act_67 : decode cL_act 67 = .ok (.iload_n 2, 1) := by decide +kernel
theorem dL_act_68 : decode cL_act 68 = .ok (.iload_n 3, 1) := by decide +kernel
theorem dL_act_69 : decode cL_act 69 = .ok (.iload 4, 2) := by decide +kernel
theorem dL_act_71 : decode cL_act 71 = .ok (.iload 5, 2) := by decide +kernel
theorem dL_act_73 : decode cL_act 73 = .ok (.iload 6, 2) := by decide +kernel
theorem dL_act_75 : decode cL_act 75 = .ok (.iconst 1, 1) := by decide +kernel
theorem dL_act_76 : decode cL_act 76 = .ok (.if_icmp .ne 7, 3) := by decide +kernel
theorem dL_act_79 : decode cL_act 79 = .ok (.iconst 1, 1) := by decide +kernel
theorem dL_act_80 : decode cL_act 80 = .ok (.goto 4, 3) := by decide +kernel
theorem dL_act_83 : decode cL_act 83 = .ok (.iconst 0, 1) := by decide +kernel
theorem dL_act_84 : decode cL_act 84 = .ok (.invokevirtual 47, 3) := by decide +kernel
theorem dL_act_87 : decode cL_act 87 = .ok (.ireturn, 1) := by decide +kernel
theorem dL_act_88 : decode cL_act 88 = .ok (.aload_n 0, 1) := by decide +kernel
theorem dL_act_89 : decode cL_act 89 = .ok (.iload_n 2, 1) := by decide +kernel
theorem dL_act_90 : decode cL_act 90 = .ok (.invokevirtual 51, 3) := by decide +kernel
theorem dL_act_93 : decode cL_act 93 = .ok (.ireturn, 1) := by decide +kernel
theorem dL_act_94 : decode cL_act 94 = .ok (.aload_n 0, 1) := by decide +kernel
theorem dL_act_95 : decode cL_act 95 = .ok (.iload_n 2, 1) := by decide +kernel
theorem dL_act_96 : decode cL_act 96 = .ok (.invokevirtual 54, 3) := by decide +kernel
theorem dL_act_99 : decode cL_act 99 = .ok (.ireturn, 1) := by decide +kernel
theorem dL_act_100 : decode cL_act 100 = .ok (.aload_n 0, 1) := by decide +kernel
theorem dL_act_101 : decode cL_act 101 = .ok (.iload_n 2, 1) := by decide +kernel
theorem dL_act_102 : decode cL_act 102 = .ok (.iload_n 3, 1) := by decide +kernel
theorem dL_act_103 : decode cL_act 103 = .ok (.invokevirtual 57, 3) := by decide +kernel
theorem dL_act_106 : decode cL_act 106 = .ok (.ireturn, 1) := by decide +kernel
theorem dL_act_107 : decode cL_act 107 = .ok (.aload_n 0, 1) := by decide +kernel
theorem dL_act_108 : decode cL_act 108 = .ok (.iload_n 2, 1) := by decide +kernel
theorem dL_act_109 : decode cL_act 109 = .ok (.iload_n 3, 1) := by decide +kernel
theorem dL_act_110 : decode cL_act 110 = .ok (.invokevirtual 60, 3) := by decide +kernel
theorem dL_act_113 : decode cL_act 113 = .ok (.ireturn, 1) := by decide +kernel
theorem dL_act_114 : decode cL_act 114 = .ok (.aload_n 0, 1) := by decide +kernel
theorem dL_act_115 : decode cL_act 115 = .ok (.iload_n 2, 1) := by decide +kernel
theorem dL_act_116 : decode cL_act 116 = .ok (.iload_n 3, 1) := by decide +kernel
theorem dL_act_117 : decode cL_act 117 = .ok (.invokevirtual 63, 3) := by decide +kernel
theorem dL_act_120 : decode cL_act 120 = .ok (.ireturn, 1) := by decide +kernel
theorem dL_act_121 : decode cL_act 121 = .ok (.aload_n 0, 1) := by decide +kernel
theorem dL_act_122 : decode cL_act 122 = .ok (.iload_n 2, 1) := by decide +kernel
theorem dL_act_123 : decode cL_act 123 = .ok (.iload_n 3, 1) := by decide +kernel
theorem dL_act_124 : decode cL_act 124 = .ok (.invokevirtual 66, 3) := by decide +kernel
theorem dL_act_127 : decode cL_act 127 = .ok (.ireturn, 1) := by decide +kernel
theorem dL_act_128 : decode cL_act 128 = .ok (.aload_n 0, 1) := by decide +kernel
theorem dL_act_129 : decode cL_act 129 = .ok (.iload_n 2, 1) := by decide +kernel
theorem dL_act_130 : decode cL_act 130 = .ok (.invokevirtual 69, 3) := by decide +kernel
theorem dL_act_133 : decode cL_act 133 = .ok (.ireturn, 1) := by decide +kernel
theorem dL_act_134 : decode cL_act 134 = .ok (.aload_n 0, 1) := by decide +kernel
theorem dL_act_135 : decode cL_act 135 = .ok (.iload_n 2, 1) := by decide +kernel
theorem dL_act_136 : decode cL_act 136 = .ok (.iload_n 3, 1) := by decide +kernel
theorem dL_act_137 : decode cL_act 137 = .ok (.invokevirtual 72, 3) := by decide +kernel
theorem dL_act_140 : decode cL_act 140 = .ok (.ireturn, 1) := by decide +kernel
theorem dL_act_141 : decode cL_act 141 = .ok (.aload_n 0, 1) := by decide +kernel
theorem dL_act_142 : decode cL_act 142 = .ok (.iload_n 2, 1) := by decide +kernel
theorem dL_act_143 : decode cL_act 143 = .ok (.iload_n 3, 1) := by decide +kernel
theorem dL_act_144 : decode cL_act 144 = .ok (.invokevirtual 75, 3) := by decide +kernel
theorem dL_act_147 : decode cL_act 147 = .ok (.ireturn, 1) := by decide +kernel
theorem dL_act_148 : decode cL_act 148 = .ok (.aload_n 0, 1) := by decide +kernel
theorem dL_act_149 : decode cL_act 149 = .ok (.iload_n 2, 1) := by decide +kernel
theorem dL_act_150 : decode cL_act 150 = .ok (.iload_n 3, 1) := by decide +kernel
theorem dL_act_151 : decode cL_act 151 = .ok (.invokevirtual 78, 3) := by decide +kernel
theorem dL_act_154 : decode cL_act 154 = .ok (.ireturn, 1) := by decide +kernel
theorem dL_act_155 : decode cL_act 155 = .ok (.astore 7, 2) := by decide +kernel
theorem dL_act_157 : decode cL_act 157 = .ok (.bipush (-2), 2) := by decide +kernel
theorem dL_act_159 : decode cL_act 159 = .ok (.ireturn, 1) := by decide +kernel
theorem dL_state_0 : decode cL_state 0 = .ok (.iconst 0, 1) := by decide +kernel
theorem dL_state_1 : decode cL_state 1 = .ok (.istore_n 1, 1) := by decide +kernel
theorem dL_state_2 : decode cL_state 2 = .ok (.iconst 0, 1) := by decide +kernel
theorem dL_state_3 : decode cL_state 3 = .ok (.istore_n 2, 1) := by decide +kernel
theorem dL_state_4 : decode cL_state 4 = .ok (.iload_n 2, 1) := by decide +kernel
theorem dL_state_5 : decode cL_state 5 = .ok (.bipush 9, 2) := by decide +kernel
theorem dL_state_7 : decode cL_state 7 = .ok (.if_icmp .ge 20, 3) := by decide +kernel
theorem dL_state_10 : decode cL_state 10 = .ok (.bipush 31, 2) := by decide +kernel
theorem dL_state_12 : decode cL_state 12 = .ok (.iload_n 1, 1) := by decide +kernel
theorem dL_state_13 : decode cL_state 13 = .ok (.imul, 1) := by decide +kernel
theorem dL_state_14 : decode cL_state 14 = .ok (.aload_n 0, 1) := by decide +kernel
theorem dL_state_15 : decode cL_state 15 = .ok (.iload_n 2, 1) := by decide +kernel
theorem dL_state_16 : decode cL_state 16 = .ok (.invokevirtual 34, 3) := by decide +kernel
theorem dL_state_19 : decode cL_state 19 = .ok (.iadd, 1) := by decide +kernel
theorem dL_state_20 : decode cL_state 20 = .ok (.istore_n 1, 1) := by decide +kernel
theorem dL_state_21 : decode cL_state 21 = .ok (.iinc 2 1, 3) := by decide +kernel
theorem dL_state_24 : decode cL_state 24 = .ok (.goto (-20), 3) := by decide +kernel
theorem dL_state_27 : decode cL_state 27 = .ok (.iconst 0, 1) := by decide +kernel
theorem dL_state_28 : decode cL_state 28 = .ok (.istore_n 2, 1) := by decide +kernel
theorem dL_state_29 : decode cL_state 29 = .ok (.iload_n 2, 1) := by decide +kernel
theorem dL_state_30 : decode cL_state 30 = .ok (.bipush 6, 2) := by decide +kernel
theorem dL_state_32 : decode cL_state 32 = .ok (.if_icmp .ge 29, 3) := by decide +kernel
theorem dL_state_35 : decode cL_state 35 = .ok (.bipush 31, 2) := by decide +kernel
theorem dL_state_37 : decode cL_state 37 = .ok (.bipush 31, 2) := by decide +kernel
theorem dL_state_39 : decode cL_state 39 = .ok (.iload_n 1, 1) := by decide +kernel
theorem dL_state_40 : decode cL_state 40 = .ok (.imul, 1) := by decide +kernel
theorem dL_state_41 : decode cL_state 41 = .ok (.aload_n 0, 1) := by decide +kernel
theorem dL_state_42 : decode cL_state 42 = .ok (.iload_n 2, 1) := by decide +kernel
theorem dL_state_43 : decode cL_state 43 = .ok (.invokevirtual 83, 3) := by decide +kernel
theorem dL_state_46 : decode cL_state 46 = .ok (.iadd, 1) := by decide +kernel
theorem dL_state_47 : decode cL_state 47 = .ok (.imul, 1) := by decide +kernel
theorem dL_state_48 : decode cL_state 48 = .ok (.aload_n 0, 1) := by decide +kernel
theorem dL_state_49 : decode cL_state 49 = .ok (.iload_n 2, 1) := by decide +kernel
theorem dL_state_50 : decode cL_state 50 = .ok (.invokevirtual 86, 3) := by decide +kernel
theorem dL_state_53 : decode cL_state 53 = .ok (.iadd, 1) := by decide +kernel
theorem dL_state_54 : decode cL_state 54 = .ok (.istore_n 1, 1) := by decide +kernel
theorem dL_state_55 : decode cL_state 55 = .ok (.iinc 2 1, 3) := by decide +kernel
theorem dL_state_58 : decode cL_state 58 = .ok (.goto (-29), 3) := by decide +kernel
theorem dL_state_61 : decode cL_state 61 = .ok (.iconst 0, 1) := by decide +kernel
theorem dL_state_62 : decode cL_state 62 = .ok (.istore_n 2, 1) := by decide +kernel
theorem dL_state_63 : decode cL_state 63 = .ok (.iload_n 2, 1) := by decide +kernel
theorem dL_state_64 : decode cL_state 64 = .ok (.aload_n 0, 1) := by decide +kernel
theorem dL_state_65 : decode cL_state 65 = .ok (.iconst 0, 1) := by decide +kernel
theorem dL_state_66 : decode cL_state 66 = .ok (.invokevirtual 34, 3) := by decide +kernel
theorem dL_state_69 : decode cL_state 69 = .ok (.if_icmp .ge 81, 3) := by decide +kernel
theorem dL_state_72 : decode cL_state 72 = .ok (.iconst 0, 1) := by decide +kernel
theorem dL_state_73 : decode cL_state 73 = .ok (.istore_n 3, 1) := by decide +kernel
theorem dL_state_74 : decode cL_state 74 = .ok (.iload_n 3, 1) := by decide +kernel
theorem dL_state_75 : decode cL_state 75 = .ok (.iconst 5, 1) := by decide +kernel
theorem dL_state_76 : decode cL_state 76 = .ok (.if_icmp .ge 21, 3) := by decide +kernel
theorem dL_state_79 : decode cL_state 79 = .ok (.bipush 31, 2) := by decide +kernel
theorem dL_state_81 : decode cL_state 81 = .ok (.iload_n 1, 1) := by decide +kernel
theorem dL_state_82 : decode cL_state 82 = .ok (.imul, 1) := by decide +kernel
theorem dL_state_83 : decode cL_state 83 = .ok (.aload_n 0, 1) := by decide +kernel
theorem dL_state_84 : decode cL_state 84 = .ok (.iload_n 2, 1) := by decide +kernel
theorem dL_state_85 : decode cL_state 85 = .ok (.iload_n 3, 1) := by decide +kernel
theorem dL_state_86 : decode cL_state 86 = .ok (.invokevirtual 89, 3) := by decide +kernel
theorem dL_state_89 : decode cL_state 89 = .ok (.iadd, 1) := by decide +kernel
theorem dL_state_90 : decode cL_state 90 = .ok (.istore_n 1, 1) := by decide +kernel
theorem dL_state_91 : decode cL_state 91 = .ok (.iinc 3 1, 3) := by decide +kernel
theorem dL_state_94 : decode cL_state 94 = .ok (.goto (-20), 3) := by decide +kernel
theorem dL_state_97 : decode cL_state 97 = .ok (.iconst 0, 1) := by decide +kernel
theorem dL_state_98 : decode cL_state 98 = .ok (.istore_n 3, 1) := by decide +kernel
theorem dL_state_99 : decode cL_state 99 = .ok (.iload_n 3, 1) := by decide +kernel
theorem dL_state_100 : decode cL_state 100 = .ok (.aload_n 0, 1) := by decide +kernel
theorem dL_state_101 : decode cL_state 101 = .ok (.iload_n 2, 1) := by decide +kernel
theorem dL_state_102 : decode cL_state 102 = .ok (.iconst 0, 1) := by decide +kernel
theorem dL_state_103 : decode cL_state 103 = .ok (.invokevirtual 89, 3) := by decide +kernel
theorem dL_state_106 : decode cL_state 106 = .ok (.if_icmp .ge 38, 3) := by decide +kernel
theorem dL_state_109 : decode cL_state 109 = .ok (.iconst 0, 1) := by decide +kernel
theorem dL_state_110 : decode cL_state 110 = .ok (.istore 4, 2) := by decide +kernel
theorem dL_state_112 : decode cL_state 112 = .ok (.iload 4, 2) := by decide +kernel
theorem dL_state_114 : decode cL_state 114 = .ok (.iconst 5, 1) := by decide +kernel
theorem dL_state_115 : decode cL_state 115 = .ok (.if_icmp .ge 23, 3) := by decide +kernel
theorem dL_state_118 : decode cL_state 118 = .ok (.bipush 31, 2) := by decide +kernel
theorem dL_state_120 : decode cL_state 120 = .ok (.iload_n 1, 1) := by decide +kernel
theorem dL_state_121 : decode cL_state 121 = .ok (.imul, 1) := by decide +kernel
theorem dL_state_122 : decode cL_state 122 = .ok (.aload_n 0, 1) := by decide +kernel
theorem dL_state_123 : decode cL_state 123 = .ok (.iload_n 2, 1) := by decide +kernel
theorem dL_state_124 : decode cL_state 124 = .ok (.iload_n 3, 1) := by decide +kernel
theorem dL_state_125 : decode cL_state 125 = .ok (.iload 4, 2) := by decide +kernel
theorem dL_state_127 : decode cL_state 127 = .ok (.invokevirtual 92, 3) := by decide +kernel
theorem dL_state_130 : decode cL_state 130 = .ok (.iadd, 1) := by decide +kernel
theorem dL_state_131 : decode cL_state 131 = .ok (.istore_n 1, 1) := by decide +kernel
theorem dL_state_132 : decode cL_state 132 = .ok (.iinc 4 1, 3) := by decide +kernel
theorem dL_state_135 : decode cL_state 135 = .ok (.goto (-23), 3) := by decide +kernel
theorem dL_state_138 : decode cL_state 138 = .ok (.iinc 3 1, 3) := by decide +kernel
theorem dL_state_141 : decode cL_state 141 = .ok (.goto (-42), 3) := by decide +kernel
theorem dL_state_144 : decode cL_state 144 = .ok (.iinc 2 1, 3) := by decide +kernel
theorem dL_state_147 : decode cL_state 147 = .ok (.goto (-84), 3) := by decide +kernel
theorem dL_state_150 : decode cL_state 150 = .ok (.iconst 0, 1) := by decide +kernel
theorem dL_state_151 : decode cL_state 151 = .ok (.istore_n 2, 1) := by decide +kernel
theorem dL_state_152 : decode cL_state 152 = .ok (.iload_n 2, 1) := by decide +kernel
theorem dL_state_153 : decode cL_state 153 = .ok (.aload_n 0, 1) := by decide +kernel
theorem dL_state_154 : decode cL_state 154 = .ok (.iconst 1, 1) := by decide +kernel
theorem dL_state_155 : decode cL_state 155 = .ok (.invokevirtual 34, 3) := by decide +kernel
theorem dL_state_158 : decode cL_state 158 = .ok (.if_icmp .ge 34, 3) := by decide +kernel
theorem dL_state_161 : decode cL_state 161 = .ok (.iconst 0, 1) := by decide +kernel
theorem dL_state_162 : decode cL_state 162 = .ok (.istore_n 3, 1) := by decide +kernel
theorem dL_state_163 : decode cL_state 163 = .ok (.iload_n 3, 1) := by decide +kernel
theorem dL_state_164 : decode cL_state 164 = .ok (.iconst 2, 1) := by decide +kernel
theorem dL_state_165 : decode cL_state 165 = .ok (.if_icmp .ge 21, 3) := by decide +kernel
theorem dL_state_168 : decode cL_state 168 = .ok (.bipush 31, 2) := by decide +kernel
theorem dL_state_170 : decode cL_state 170 = .ok (.iload_n 1, 1) := by decide +kernel
theorem dL_state_171 : decode cL_state 171 = .ok (.imul, 1) := by decide +kernel
theorem dL_state_172 : decode cL_state 172 = .ok (.aload_n 0, 1) := by decide +kernel
theorem dL_state_173 : decode cL_state 173 = .ok (.iload_n 2, 1) := by decide +kernel
theorem dL_state_174 : decode cL_state 174 = .ok (.iload_n 3, 1) := by decide +kernel
theorem dL_state_175 : decode cL_state 175 = .ok (.invokevirtual 96, 3) := by decide +kernel
theorem dL_state_178 : decode cL_state 178 = .ok (.iadd, 1) := by decide +kernel
theorem dL_state_179 : decode cL_state 179 = .ok (.istore_n 1, 1) := by decide +kernel
theorem dL_state_180 : decode cL_state 180 = .ok (.iinc 3 1, 3) := by decide +kernel
theorem dL_state_183 : decode cL_state 183 = .ok (.goto (-20), 3) := by decide +kernel
theorem dL_state_186 : decode cL_state 186 = .ok (.iinc 2 1, 3) := by decide +kernel
theorem dL_state_189 : decode cL_state 189 = .ok (.goto (-37), 3) := by decide +kernel
theorem dL_state_192 : decode cL_state 192 = .ok (.iload_n 1, 1) := by decide +kernel
theorem dL_state_193 : decode cL_state 193 = .ok (.ireturn, 1) := by decide +kernel
theorem dL_law_0 : decode cL_law 0 = .ok (.aload_n 0, 1) := by decide +kernel
theorem dL_law_1 : decode cL_law 1 = .ok (.invokestatic 113, 3) := by decide +kernel
theorem dL_law_4 : decode cL_law 4 = .ok (.astore_n 1, 1) := by decide +kernel
theorem dL_law_5 : decode cL_law 5 = .ok (.aload_n 0, 1) := by decide +kernel
theorem dL_law_6 : decode cL_law 6 = .ok (.invokestatic 113, 3) := by decide +kernel
theorem dL_law_9 : decode cL_law 9 = .ok (.astore_n 2, 1) := by decide +kernel
theorem dL_law_10 : decode cL_law 10 = .ok (.aload_n 1, 1) := by decide +kernel
theorem dL_law_11 : decode cL_law 11 = .ok (.invokevirtual 116, 3) := by decide +kernel
theorem dL_law_14 : decode cL_law 14 = .ok (.istore_n 3, 1) := by decide +kernel
theorem dL_law_15 : decode cL_law 15 = .ok (.aload_n 1, 1) := by decide +kernel
theorem dL_law_16 : decode cL_law 16 = .ok (.invokestatic 119, 3) := by decide +kernel
theorem dL_law_19 : decode cL_law 19 = .ok (.istore 4, 2) := by decide +kernel
theorem dL_law_21 : decode cL_law 21 = .ok (.aload_n 1, 1) := by decide +kernel
theorem dL_law_22 : decode cL_law 22 = .ok (.iconst 0, 1) := by decide +kernel
theorem dL_law_23 : decode cL_law 23 = .ok (.iconst 3, 1) := by decide +kernel
theorem dL_law_24 : decode cL_law 24 = .ok (.invokevirtual 89, 3) := by decide +kernel
theorem dL_law_27 : decode cL_law 27 = .ok (.istore 5, 2) := by decide +kernel
theorem dL_law_29 : decode cL_law 29 = .ok (.iconst 0, 1) := by decide +kernel
theorem dL_law_30 : decode cL_law 30 = .ok (.istore 6, 2) := by decide +kernel
theorem dL_law_32 : decode cL_law 32 = .ok (.iload 6, 2) := by decide +kernel
theorem dL_law_34 : decode cL_law 34 = .ok (.iload 5, 2) := by decide +kernel
theorem dL_law_36 : decode cL_law 36 = .ok (.if_icmp .eq 16, 3) := by decide +kernel
theorem dL_law_39 : decode cL_law 39 = .ok (.aload_n 1, 1) := by decide +kernel
theorem dL_law_40 : decode cL_law 40 = .ok (.iload 6, 2) := by decide +kernel
theorem dL_law_42 : decode cL_law 42 = .ok (.invokevirtual 123, 3) := by decide +kernel
theorem dL_law_45 : decode cL_law 45 = .ok (.invokestatic 126, 3) := by decide +kernel
theorem dL_law_48 : decode cL_law 48 = .ok (.iconst 3, 1) := by decide +kernel
theorem dL_law_49 : decode cL_law 49 = .ok (.if_icmp .ne 9, 3) := by decide +kernel
theorem dL_law_52 : decode cL_law 52 = .ok (.iinc 6 1, 3) := by decide +kernel
theorem dL_law_55 : decode cL_law 55 = .ok (.goto (-23), 3) := by decide +kernel
theorem dL_law_58 : decode cL_law 58 = .ok (.aload_n 1, 1) := by decide +kernel
theorem dL_law_59 : decode cL_law 59 = .ok (.new 131, 3) := by decide +kernel
theorem dL_law_62 : decode cL_law 62 = .ok (.dup, 1) := by decide +kernel
theorem dL_law_63 : decode cL_law 63 = .ok (.invokespecial 133, 3) := by decide +kernel
theorem dL_law_66 : decode cL_law 66 = .ok (.ldc 134, 2) := by decide +kernel
theorem dL_law_68 : decode cL_law 68 = .ok (.invokevirtual 136, 3) := by decide +kernel
theorem dL_law_71 : decode cL_law 71 = .ok (.iload 6, 2) := by decide +kernel
theorem dL_law_73 : decode cL_law 73 = .ok (.invokevirtual 139, 3) := by decide +kernel
theorem dL_law_76 : decode cL_law 76 = .ok (.ldc 142, 2) := by decide +kernel
theorem dL_law_78 : decode cL_law 78 = .ok (.invokevirtual 136, 3) := by decide +kernel
theorem dL_law_81 : decode cL_law 81 = .ok (.iload 5, 2) := by decide +kernel
theorem dL_law_83 : decode cL_law 83 = .ok (.invokevirtual 139, 3) := by decide +kernel
theorem dL_law_86 : decode cL_law 86 = .ok (.invokevirtual 144, 3) := by decide +kernel
theorem dL_law_89 : decode cL_law 89 = .ok (.invokestatic 148, 3) := by decide +kernel
theorem dL_law_92 : decode cL_law 92 = .ok (.aload_n 1, 1) := by decide +kernel
theorem dL_law_93 : decode cL_law 93 = .ok (.invokevirtual 152, 3) := by decide +kernel
theorem dL_law_96 : decode cL_law 96 = .ok (.iconst 2, 1) := by decide +kernel
theorem dL_law_97 : decode cL_law 97 = .ok (.if_icmp .ne 64, 3) := by decide +kernel
theorem dL_law_100 : decode cL_law 100 = .ok (.aload_n 2, 1) := by decide +kernel
theorem dL_law_101 : decode cL_law 101 = .ok (.iconst 0, 1) := by decide +kernel
theorem dL_law_102 : decode cL_law 102 = .ok (.iload 6, 2) := by decide +kernel
theorem dL_law_104 : decode cL_law 104 = .ok (.invokevirtual 72, 3) := by decide +kernel
theorem dL_law_107 : decode cL_law 107 = .ok (.iload 5, 2) := by decide +kernel
theorem dL_law_109 : decode cL_law 109 = .ok (.if_icmp .ne 52, 3) := by decide +kernel
theorem dL_law_112 : decode cL_law 112 = .ok (.aload_n 2, 1) := by decide +kernel
theorem dL_law_113 : decode cL_law 113 = .ok (.iconst 0, 1) := by decide +kernel
theorem dL_law_114 : decode cL_law 114 = .ok (.iload 5, 2) := by decide +kernel
theorem dL_law_116 : decode cL_law 116 = .ok (.invokevirtual 72, 3) := by decide +kernel
theorem dL_law_119 : decode cL_law 119 = .ok (.iload 6, 2) := by decide +kernel
theorem dL_law_121 : decode cL_law 121 = .ok (.if_icmp .ne 40, 3) := by decide +kernel
theorem dL_law_124 : decode cL_law 124 = .ok (.aload_n 1, 1) := by decide +kernel
theorem dL_law_125 : decode cL_law 125 = .ok (.invokestatic 119, 3) := by decide +kernel
theorem dL_law_128 : decode cL_law 128 = .ok (.aload_n 2, 1) := by decide +kernel
theorem dL_law_129 : decode cL_law 129 = .ok (.invokestatic 119, 3) := by decide +kernel
theorem dL_law_132 : decode cL_law 132 = .ok (.if_icmp .ne 29, 3) := by decide +kernel
theorem dL_law_135 : decode cL_law 135 = .ok (.aload_n 1, 1) := by decide +kernel
theorem dL_law_136 : decode cL_law 136 = .ok (.invokestatic 119, 3) := by decide +kernel
theorem dL_law_139 : decode cL_law 139 = .ok (.iload 4, 2) := by decide +kernel
theorem dL_law_141 : decode cL_law 141 = .ok (.if_icmp .ne 20, 3) := by decide +kernel
theorem dL_law_144 : decode cL_law 144 = .ok (.aload_n 1, 1) := by decide +kernel
theorem dL_law_145 : decode cL_law 145 = .ok (.bipush 10, 2) := by decide +kernel
theorem dL_law_147 : decode cL_law 147 = .ok (.invokevirtual 34, 3) := by decide +kernel
theorem dL_law_150 : decode cL_law 150 = .ok (.ifCond .ne 11, 3) := by decide +kernel
theorem dL_law_153 : decode cL_law 153 = .ok (.aload_n 1, 1) := by decide +kernel
theorem dL_law_154 : decode cL_law 154 = .ok (.invokevirtual 155, 3) := by decide +kernel
theorem dL_law_157 : decode cL_law 157 = .ok (.iconst (-1), 1) := by decide +kernel
theorem dL_law_158 : decode cL_law 158 = .ok (.if_icmp .eq 5, 3) := by decide +kernel
theorem dL_law_161 : decode cL_law 161 = .ok (.iconst 0, 1) := by decide +kernel
theorem dL_law_162 : decode cL_law 162 = .ok (.ireturn, 1) := by decide +kernel
theorem dL_law_163 : decode cL_law 163 = .ok (.aload_n 1, 1) := by decide +kernel
theorem dL_law_164 : decode cL_law 164 = .ok (.bipush 9, 2) := by decide +kernel
theorem dL_law_166 : decode cL_law 166 = .ok (.invokevirtual 34, 3) := by decide +kernel
theorem dL_law_169 : decode cL_law 169 = .ok (.istore 7, 2) := by decide +kernel
theorem dL_law_171 : decode cL_law 171 = .ok (.aload_n 1, 1) := by decide +kernel
theorem dL_law_172 : decode cL_law 172 = .ok (.invokevirtual 158, 3) := by decide +kernel
theorem dL_law_175 : decode cL_law 175 = .ok (.iload 7, 2) := by decide +kernel
theorem dL_law_177 : decode cL_law 177 = .ok (.iconst 1, 1) := by decide +kernel
theorem dL_law_178 : decode cL_law 178 = .ok (.isub, 1) := by decide +kernel
theorem dL_law_179 : decode cL_law 179 = .ok (.if_icmp .ne 35, 3) := by decide +kernel
theorem dL_law_182 : decode cL_law 182 = .ok (.aload_n 1, 1) := by decide +kernel
theorem dL_law_183 : decode cL_law 183 = .ok (.invokestatic 119, 3) := by decide +kernel
theorem dL_law_186 : decode cL_law 186 = .ok (.iload 4, 2) := by decide +kernel
theorem dL_law_188 : decode cL_law 188 = .ok (.if_icmp .ne 26, 3) := by decide +kernel
theorem dL_law_191 : decode cL_law 191 = .ok (.aload_n 2, 1) := by decide +kernel
theorem dL_law_192 : decode cL_law 192 = .ok (.invokevirtual 158, 3) := by decide +kernel
theorem dL_law_195 : decode cL_law 195 = .ok (.ifCond .lt 19, 3) := by decide +kernel
theorem dL_law_198 : decode cL_law 198 = .ok (.aload_n 2, 1) := by decide +kernel
theorem dL_law_199 : decode cL_law 199 = .ok (.invokevirtual 158, 3) := by decide +kernel
theorem dL_law_202 : decode cL_law 202 = .ok (.ifCond .lt 12, 3) := by decide +kernel
theorem dL_law_205 : decode cL_law 205 = .ok (.aload_n 2, 1) := by decide +kernel
theorem dL_law_206 : decode cL_law 206 = .ok (.invokestatic 119, 3) := by decide +kernel
theorem dL_law_209 : decode cL_law 209 = .ok (.iload 4, 2) := by decide +kernel
theorem dL_law_211 : decode cL_law 211 = .ok (.if_icmp .eq 5, 3) := by decide +kernel
theorem dL_law_214 : decode cL_law 214 = .ok (.iconst 0, 1) := by decide +kernel
theorem dL_law_215 : decode cL_law 215 = .ok (.ireturn, 1) := by decide +kernel
theorem dL_law_216 : decode cL_law 216 = .ok (.aload_n 1, 1) := by decide +kernel
theorem dL_law_217 : decode cL_law 217 = .ok (.new 131, 3) := by decide +kernel
theorem dL_law_220 : decode cL_law 220 = .ok (.dup, 1) := by decide +kernel
theorem dL_law_221 : decode cL_law 221 = .ok (.invokespecial 133, 3) := by decide +kernel
theorem dL_law_224 : decode cL_law 224 = .ok (.ldc 134, 2) := by decide +kernel
theorem dL_law_226 : decode cL_law 226 = .ok (.invokevirtual 136, 3) := by decide +kernel
theorem dL_law_229 : decode cL_law 229 = .ok (.iload 6, 2) := by decide +kernel
theorem dL_law_231 : decode cL_law 231 = .ok (.invokevirtual 139, 3) := by decide +kernel
theorem dL_law_234 : decode cL_law 234 = .ok (.ldc 142, 2) := by decide +kernel
theorem dL_law_236 : decode cL_law 236 = .ok (.invokevirtual 136, 3) := by decide +kernel
theorem dL_law_239 : decode cL_law 239 = .ok (.iload 6, 2) := by decide +kernel
theorem dL_law_241 : decode cL_law 241 = .ok (.invokevirtual 139, 3) := by decide +kernel
theorem dL_law_244 : decode cL_law 244 = .ok (.invokevirtual 144, 3) := by decide +kernel
theorem dL_law_247 : decode cL_law 247 = .ok (.invokestatic 148, 3) := by decide +kernel
theorem dL_law_250 : decode cL_law 250 = .ok (.aload_n 1, 1) := by decide +kernel
theorem dL_law_251 : decode cL_law 251 = .ok (.invokestatic 161, 3) := by decide +kernel
theorem dL_law_254 : decode cL_law 254 = .ok (.bipush (-2), 2) := by decide +kernel
theorem dL_law_256 : decode cL_law 256 = .ok (.if_icmp .ne 41, 3) := by decide +kernel
theorem dL_law_259 : decode cL_law 259 = .ok (.aload_n 1, 1) := by decide +kernel
theorem dL_law_260 : decode cL_law 260 = .ok (.iconst 0, 1) := by decide +kernel
theorem dL_law_261 : decode cL_law 261 = .ok (.invokevirtual 164, 3) := by decide +kernel
theorem dL_law_264 : decode cL_law 264 = .ok (.bipush 12, 2) := by decide +kernel
theorem dL_law_266 : decode cL_law 266 = .ok (.if_icmp .ne 31, 3) := by decide +kernel
theorem dL_law_269 : decode cL_law 269 = .ok (.aload_n 1, 1) := by decide +kernel
theorem dL_law_270 : decode cL_law 270 = .ok (.iconst 1, 1) := by decide +kernel
theorem dL_law_271 : decode cL_law 271 = .ok (.invokevirtual 164, 3) := by decide +kernel
theorem dL_law_274 : decode cL_law 274 = .ok (.iload 6, 2) := by decide +kernel
theorem dL_law_276 : decode cL_law 276 = .ok (.if_icmp .ne 21, 3) := by decide +kernel
theorem dL_law_279 : decode cL_law 279 = .ok (.aload_n 1, 1) := by decide +kernel
theorem dL_law_280 : decode cL_law 280 = .ok (.iconst 2, 1) := by decide +kernel
theorem dL_law_281 : decode cL_law 281 = .ok (.invokevirtual 164, 3) := by decide +kernel
theorem dL_law_284 : decode cL_law 284 = .ok (.iconst 1, 1) := by decide +kernel
theorem dL_law_285 : decode cL_law 285 = .ok (.if_icmp .ne 12, 3) := by decide +kernel
theorem dL_law_288 : decode cL_law 288 = .ok (.aload_n 1, 1) := by decide +kernel
theorem dL_law_289 : decode cL_law 289 = .ok (.invokestatic 119, 3) := by decide +kernel
theorem dL_law_292 : decode cL_law 292 = .ok (.iload 4, 2) := by decide +kernel
theorem dL_law_294 : decode cL_law 294 = .ok (.if_icmp .eq 5, 3) := by decide +kernel
theorem dL_law_297 : decode cL_law 297 = .ok (.iconst 0, 1) := by decide +kernel
theorem dL_law_298 : decode cL_law 298 = .ok (.ireturn, 1) := by decide +kernel
theorem dL_law_299 : decode cL_law 299 = .ok (.aload_n 1, 1) := by decide +kernel
theorem dL_law_300 : decode cL_law 300 = .ok (.ldc 167, 2) := by decide +kernel
theorem dL_law_302 : decode cL_law 302 = .ok (.invokestatic 148, 3) := by decide +kernel
theorem dL_law_305 : decode cL_law 305 = .ok (.aload_n 1, 1) := by decide +kernel
theorem dL_law_306 : decode cL_law 306 = .ok (.invokestatic 161, 3) := by decide +kernel
theorem dL_law_309 : decode cL_law 309 = .ok (.bipush (-2), 2) := by decide +kernel
theorem dL_law_311 : decode cL_law 311 = .ok (.if_icmp .ne 38, 3) := by decide +kernel
theorem dL_law_314 : decode cL_law 314 = .ok (.aload_n 1, 1) := by decide +kernel
theorem dL_law_315 : decode cL_law 315 = .ok (.iconst 0, 1) := by decide +kernel
theorem dL_law_316 : decode cL_law 316 = .ok (.invokevirtual 164, 3) := by decide +kernel
theorem dL_law_319 : decode cL_law 319 = .ok (.iconst 3, 1) := by decide +kernel
theorem dL_law_320 : decode cL_law 320 = .ok (.if_icmp .ne 29, 3) := by decide +kernel
theorem dL_law_323 : decode cL_law 323 = .ok (.aload_n 1, 1) := by decide +kernel
theorem dL_law_324 : decode cL_law 324 = .ok (.iconst 1, 1) := by decide +kernel
theorem dL_law_325 : decode cL_law 325 = .ok (.invokevirtual 164, 3) := by decide +kernel
theorem dL_law_328 : decode cL_law 328 = .ok (.iload_n 3, 1) := by decide +kernel
theorem dL_law_329 : decode cL_law 329 = .ok (.if_icmp .ne 20, 3) := by decide +kernel
theorem dL_law_332 : decode cL_law 332 = .ok (.aload_n 1, 1) := by decide +kernel
theorem dL_law_333 : decode cL_law 333 = .ok (.iconst 2, 1) := by decide +kernel
theorem dL_law_334 : decode cL_law 334 = .ok (.invokevirtual 164, 3) := by decide +kernel
theorem dL_law_337 : decode cL_law 337 = .ok (.ifCond .ne 12, 3) := by decide +kernel
theorem dL_law_340 : decode cL_law 340 = .ok (.aload_n 1, 1) := by decide +kernel
theorem dL_law_341 : decode cL_law 341 = .ok (.invokestatic 119, 3) := by decide +kernel
theorem dL_law_344 : decode cL_law 344 = .ok (.iload 4, 2) := by decide +kernel
theorem dL_law_346 : decode cL_law 346 = .ok (.if_icmp .eq 5, 3) := by decide +kernel
theorem dL_law_349 : decode cL_law 349 = .ok (.iconst 0, 1) := by decide +kernel
theorem dL_law_350 : decode cL_law 350 = .ok (.ireturn, 1) := by decide +kernel
theorem dL_law_351 : decode cL_law 351 = .ok (.aload_n 1, 1) := by decide +kernel
theorem dL_law_352 : decode cL_law 352 = .ok (.ldc 169, 2) := by decide +kernel
theorem dL_law_354 : decode cL_law 354 = .ok (.invokestatic 148, 3) := by decide +kernel
theorem dL_law_357 : decode cL_law 357 = .ok (.aload_n 1, 1) := by decide +kernel
theorem dL_law_358 : decode cL_law 358 = .ok (.invokestatic 161, 3) := by decide +kernel
theorem dL_law_361 : decode cL_law 361 = .ok (.bipush (-2), 2) := by decide +kernel
theorem dL_law_363 : decode cL_law 363 = .ok (.if_icmp .ne 20, 3) := by decide +kernel
theorem dL_law_366 : decode cL_law 366 = .ok (.aload_n 1, 1) := by decide +kernel
theorem dL_law_367 : decode cL_law 367 = .ok (.iconst 0, 1) := by decide +kernel
theorem dL_law_368 : decode cL_law 368 = .ok (.invokevirtual 164, 3) := by decide +kernel
theorem dL_law_371 : decode cL_law 371 = .ok (.iconst 1, 1) := by decide +kernel
theorem dL_law_372 : decode cL_law 372 = .ok (.if_icmp .ne 11, 3) := by decide +kernel
theorem dL_law_375 : decode cL_law 375 = .ok (.aload_n 1, 1) := by decide +kernel
theorem dL_law_376 : decode cL_law 376 = .ok (.iconst 1, 1) := by decide +kernel
theorem dL_law_377 : decode cL_law 377 = .ok (.invokevirtual 164, 3) := by decide +kernel
theorem dL_law_380 : decode cL_law 380 = .ok (.ifCond .eq 5, 3) := by decide +kernel
theorem dL_law_383 : decode cL_law 383 = .ok (.iconst 0, 1) := by decide +kernel
theorem dL_law_384 : decode cL_law 384 = .ok (.ireturn, 1) := by decide +kernel
theorem dL_law_385 : decode cL_law 385 = .ok (.aload_n 1, 1) := by decide +kernel
theorem dL_law_386 : decode cL_law 386 = .ok (.ldc 171, 2) := by decide +kernel
theorem dL_law_388 : decode cL_law 388 = .ok (.bipush 7, 2) := by decide +kernel
theorem dL_law_390 : decode cL_law 390 = .ok (.invokestatic 173, 3) := by decide +kernel
theorem dL_law_393 : decode cL_law 393 = .ok (.ifCond .eq 104, 3) := by decide +kernel
theorem dL_law_396 : decode cL_law 396 = .ok (.aload_n 1, 1) := by decide +kernel
theorem dL_law_397 : decode cL_law 397 = .ok (.ldc 177, 2) := by decide +kernel
theorem dL_law_399 : decode cL_law 399 = .ok (.bipush 12, 2) := by decide +kernel
theorem dL_law_401 : decode cL_law 401 = .ok (.invokestatic 173, 3) := by decide +kernel
theorem dL_law_404 : decode cL_law 404 = .ok (.ifCond .eq 93, 3) := by decide +kernel
theorem dL_law_407 : decode cL_law 407 = .ok (.aload_n 1, 1) := by decide +kernel
theorem dL_law_408 : decode cL_law 408 = .ok (.ldc 179, 2) := by decide +kernel
theorem dL_law_410 : decode cL_law 410 = .ok (.bipush 8, 2) := by decide +kernel
theorem dL_law_412 : decode cL_law 412 = .ok (.invokestatic 173, 3) := by decide +kernel
theorem dL_law_415 : decode cL_law 415 = .ok (.ifCond .eq 82, 3) := by decide +kernel
theorem dL_law_418 : decode cL_law 418 = .ok (.aload_n 1, 1) := by decide +kernel
theorem dL_law_419 : decode cL_law 419 = .ok (.ldc 181, 2) := by decide +kernel
theorem dL_law_421 : decode cL_law 421 = .ok (.iconst 2, 1) := by decide +kernel
theorem dL_law_422 : decode cL_law 422 = .ok (.invokestatic 173, 3) := by decide +kernel
theorem dL_law_425 : decode cL_law 425 = .ok (.ifCond .eq 72, 3) := by decide +kernel
theorem dL_law_428 : decode cL_law 428 = .ok (.aload_n 1, 1) := by decide +kernel
theorem dL_law_429 : decode cL_law 429 = .ok (.ldc 183, 2) := by decide +kernel
theorem dL_law_431 : decode cL_law 431 = .ok (.iconst 0, 1) := by decide +kernel
theorem dL_law_432 : decode cL_law 432 = .ok (.invokestatic 173, 3) := by decide +kernel
theorem dL_law_435 : decode cL_law 435 = .ok (.ifCond .eq 62, 3) := by decide +kernel
theorem dL_law_438 : decode cL_law 438 = .ok (.aload_n 1, 1) := by decide +kernel
theorem dL_law_439 : decode cL_law 439 = .ok (.ldc 185, 2) := by decide +kernel
theorem dL_law_441 : decode cL_law 441 = .ok (.iconst 3, 1) := by decide +kernel
theorem dL_law_442 : decode cL_law 442 = .ok (.invokestatic 173, 3) := by decide +kernel
theorem dL_law_445 : decode cL_law 445 = .ok (.ifCond .eq 52, 3) := by decide +kernel
theorem dL_law_448 : decode cL_law 448 = .ok (.aload_n 1, 1) := by decide +kernel
theorem dL_law_449 : decode cL_law 449 = .ok (.ldc 187, 2) := by decide +kernel
theorem dL_law_451 : decode cL_law 451 = .ok (.iconst 2, 1) := by decide +kernel
theorem dL_law_452 : decode cL_law 452 = .ok (.invokestatic 173, 3) := by decide +kernel
theorem dL_law_455 : decode cL_law 455 = .ok (.ifCond .eq 42, 3) := by decide +kernel
theorem dL_law_458 : decode cL_law 458 = .ok (.aload_n 1, 1) := by decide +kernel
theorem dL_law_459 : decode cL_law 459 = .ok (.ldc 189, 2) := by decide +kernel
theorem dL_law_461 : decode cL_law 461 = .ok (.iconst 2, 1) := by decide +kernel
theorem dL_law_462 : decode cL_law 462 = .ok (.invokestatic 173, 3) := by decide +kernel
theorem dL_law_465 : decode cL_law 465 = .ok (.ifCond .eq 32, 3) := by decide +kernel
theorem dL_law_468 : decode cL_law 468 = .ok (.aload_n 1, 1) := by decide +kernel
theorem dL_law_469 : decode cL_law 469 = .ok (.ldc 191, 2) := by decide +kernel
theorem dL_law_471 : decode cL_law 471 = .ok (.iconst 0, 1) := by decide +kernel
theorem dL_law_472 : decode cL_law 472 = .ok (.invokestatic 173, 3) := by decide +kernel
theorem dL_law_475 : decode cL_law 475 = .ok (.ifCond .eq 22, 3) := by decide +kernel
theorem dL_law_478 : decode cL_law 478 = .ok (.aload_n 1, 1) := by decide +kernel
theorem dL_law_479 : decode cL_law 479 = .ok (.ldc 193, 2) := by decide +kernel
theorem dL_law_481 : decode cL_law 481 = .ok (.iconst 3, 1) := by decide +kernel
theorem dL_law_482 : decode cL_law 482 = .ok (.invokestatic 173, 3) := by decide +kernel
theorem dL_law_485 : decode cL_law 485 = .ok (.ifCond .eq 12, 3) := by decide +kernel
theorem dL_law_488 : decode cL_law 488 = .ok (.aload_n 1, 1) := by decide +kernel
theorem dL_law_489 : decode cL_law 489 = .ok (.invokestatic 119, 3) := by decide +kernel
theorem dL_law_492 : decode cL_law 492 = .ok (.iload 4, 2) := by decide +kernel
theorem dL_law_494 : decode cL_law 494 = .ok (.if_icmp .eq 5, 3) := by decide +kernel
theorem dL_law_497 : decode cL_law 497 = .ok (.iconst 0, 1) := by decide +kernel
theorem dL_law_498 : decode cL_law 498 = .ok (.ireturn, 1) := by decide +kernel
theorem dL_law_499 : decode cL_law 499 = .ok (.aload_n 0, 1) := by decide +kernel
theorem dL_law_500 : decode cL_law 500 = .ok (.bipush 13, 2) := by decide +kernel
theorem dL_law_502 : decode cL_law 502 = .ok (.invokestatic 24, 3) := by decide +kernel
theorem dL_law_505 : decode cL_law 505 = .ok (.istore 8, 2) := by decide +kernel
theorem dL_law_507 : decode cL_law 507 = .ok (.iconst 1, 1) := by decide +kernel
theorem dL_law_508 : decode cL_law 508 = .ok (.iload 8, 2) := by decide +kernel
theorem dL_law_510 : decode cL_law 510 = .ok (.iconst 3, 1) := by decide +kernel
theorem dL_law_511 : decode cL_law 511 = .ok (.iand, 1) := by decide +kernel
theorem dL_law_512 : decode cL_law 512 = .ok (.iadd, 1) := by decide +kernel
theorem dL_law_513 : decode cL_law 513 = .ok (.istore 9, 2) := by decide +kernel
theorem dL_law_515 : decode cL_law 515 = .ok (.iload 8, 2) := by decide +kernel
theorem dL_law_517 : decode cL_law 517 = .ok (.iconst 2, 1) := by decide +kernel
theorem dL_law_518 : decode cL_law 518 = .ok (.ishr, 1) := by decide +kernel
theorem dL_law_519 : decode cL_law 519 = .ok (.bipush 7, 2) := by decide +kernel
theorem dL_law_521 : decode cL_law 521 = .ok (.iand, 1) := by decide +kernel
theorem dL_law_522 : decode cL_law 522 = .ok (.bipush 6, 2) := by decide +kernel
theorem dL_law_524 : decode cL_law 524 = .ok (.irem, 1) := by decide +kernel
theorem dL_law_525 : decode cL_law 525 = .ok (.istore 10, 2) := by decide +kernel
theorem dL_law_527 : decode cL_law 527 = .ok (.iload 10, 2) := by decide +kernel
theorem dL_law_529 : decode cL_law 529 = .ok (.iconst 1, 1) := by decide +kernel
theorem dL_law_530 : decode cL_law 530 = .ok (.iadd, 1) := by decide +kernel
theorem dL_law_531 : decode cL_law 531 = .ok (.bipush 6, 2) := by decide +kernel
theorem dL_law_533 : decode cL_law 533 = .ok (.irem, 1) := by decide +kernel
theorem dL_law_534 : decode cL_law 534 = .ok (.istore 11, 2) := by decide +kernel
theorem dL_law_536 : decode cL_law 536 = .ok (.iload 10, 2) := by decide +kernel
theorem dL_law_538 : decode cL_law 538 = .ok (.iconst 2, 1) := by decide +kernel
theorem dL_law_539 : decode cL_law 539 = .ok (.iadd, 1) := by decide +kernel
theorem dL_law_540 : decode cL_law 540 = .ok (.bipush 6, 2) := by decide +kernel
theorem dL_law_542 : decode cL_law 542 = .ok (.irem, 1) := by decide +kernel
theorem dL_law_543 : decode cL_law 543 = .ok (.istore 12, 2) := by decide +kernel
theorem dL_law_545 : decode cL_law 545 = .ok (.new 18, 3) := by decide +kernel
theorem dL_law_548 : decode cL_law 548 = .ok (.dup, 1) := by decide +kernel
theorem dL_law_549 : decode cL_law 549 = .ok (.invokespecial 23, 3) := by decide +kernel
theorem dL_law_552 : decode cL_law 552 = .ok (.astore 13, 2) := by decide +kernel
theorem dL_law_554 : decode cL_law 554 = .ok (.aload 13, 2) := by decide +kernel
theorem dL_law_556 : decode cL_law 556 = .ok (.invokevirtual 195, 3) := by decide +kernel
theorem dL_law_559 : decode cL_law 559 = .ok (.ifCond .eq 74, 3) := by decide +kernel
theorem dL_law_562 : decode cL_law 562 = .ok (.aload 13, 2) := by decide +kernel
theorem dL_law_564 : decode cL_law 564 = .ok (.iconst 2, 1) := by decide +kernel
theorem dL_law_565 : decode cL_law 565 = .ok (.invokevirtual 123, 3) := by decide +kernel
theorem dL_law_568 : decode cL_law 568 = .ok (.ifCond .ne 65, 3) := by decide +kernel
theorem dL_law_571 : decode cL_law 571 = .ok (.aload 13, 2) := by decide +kernel
theorem dL_law_573 : decode cL_law 573 = .ok (.bipush 6, 2) := by decide +kernel
theorem dL_law_575 : decode cL_law 575 = .ok (.iconst 0, 1) := by decide +kernel
theorem dL_law_576 : decode cL_law 576 = .ok (.iconst 0, 1) := by decide +kernel
theorem dL_law_577 : decode cL_law 577 = .ok (.iconst 0, 1) := by decide +kernel
theorem dL_law_578 : decode cL_law 578 = .ok (.iconst 0, 1) := by decide +kernel
theorem dL_law_579 : decode cL_law 579 = .ok (.iconst 0, 1) := by decide +kernel
theorem dL_law_580 : decode cL_law 580 = .ok (.invokestatic 30, 3) := by decide +kernel
theorem dL_law_583 : decode cL_law 583 = .ok (.bipush (-2), 2) := by decide +kernel
theorem dL_law_585 : decode cL_law 585 = .ok (.if_icmp .ne 48, 3) := by decide +kernel
theorem dL_law_588 : decode cL_law 588 = .ok (.aload 13, 2) := by decide +kernel
theorem dL_law_590 : decode cL_law 590 = .ok (.iconst 0, 1) := by decide +kernel
theorem dL_law_591 : decode cL_law 591 = .ok (.invokevirtual 164, 3) := by decide +kernel
theorem dL_law_594 : decode cL_law 594 = .ok (.iconst 4, 1) := by decide +kernel
theorem dL_law_595 : decode cL_law 595 = .ok (.if_icmp .ne 38, 3) := by decide +kernel
theorem dL_law_598 : decode cL_law 598 = .ok (.aload 13, 2) := by decide +kernel
theorem dL_law_600 : decode cL_law 600 = .ok (.iconst 2, 1) := by decide +kernel
theorem dL_law_601 : decode cL_law 601 = .ok (.iconst 0, 1) := by decide +kernel
theorem dL_law_602 : decode cL_law 602 = .ok (.iconst 0, 1) := by decide +kernel
theorem dL_law_603 : decode cL_law 603 = .ok (.iconst 0, 1) := by decide +kernel
theorem dL_law_604 : decode cL_law 604 = .ok (.iconst 0, 1) := by decide +kernel
theorem dL_law_605 : decode cL_law 605 = .ok (.iconst 0, 1) := by decide +kernel
theorem dL_law_606 : decode cL_law 606 = .ok (.invokestatic 30, 3) := by decide +kernel
theorem dL_law_609 : decode cL_law 609 = .ok (.bipush (-2), 2) := by decide +kernel
theorem dL_law_611 : decode cL_law 611 = .ok (.if_icmp .ne 22, 3) := by decide +kernel
theorem dL_law_614 : decode cL_law 614 = .ok (.aload 13, 2) := by decide +kernel
theorem dL_law_616 : decode cL_law 616 = .ok (.iconst 0, 1) := by decide +kernel
theorem dL_law_617 : decode cL_law 617 = .ok (.invokevirtual 164, 3) := by decide +kernel
theorem dL_law_620 : decode cL_law 620 = .ok (.iconst 3, 1) := by decide +kernel
theorem dL_law_621 : decode cL_law 621 = .ok (.if_icmp .ne 12, 3) := by decide +kernel
theorem dL_law_624 : decode cL_law 624 = .ok (.aload 13, 2) := by decide +kernel
theorem dL_law_626 : decode cL_law 626 = .ok (.iconst 4, 1) := by decide +kernel
theorem dL_law_627 : decode cL_law 627 = .ok (.invokevirtual 34, 3) := by decide +kernel
theorem dL_law_630 : decode cL_law 630 = .ok (.ifCond .eq 5, 3) := by decide +kernel
theorem dL_law_633 : decode cL_law 633 = .ok (.iconst 0, 1) := by decide +kernel
theorem dL_law_634 : decode cL_law 634 = .ok (.ireturn, 1) := by decide +kernel
theorem dL_law_635 : decode cL_law 635 = .ok (.aload 13, 2) := by decide +kernel
theorem dL_law_637 : decode cL_law 637 = .ok (.new 131, 3) := by decide +kernel
theorem dL_law_640 : decode cL_law 640 = .ok (.dup, 1) := by decide +kernel
theorem dL_law_641 : decode cL_law 641 = .ok (.invokespecial 133, 3) := by decide +kernel
theorem dL_law_644 : decode cL_law 644 = .ok (.ldc 199, 2) := by decide +kernel
theorem dL_law_646 : decode cL_law 646 = .ok (.invokevirtual 136, 3) := by decide +kernel
theorem dL_law_649 : decode cL_law 649 = .ok (.iload 10, 2) := by decide +kernel
theorem dL_law_651 : decode cL_law 651 = .ok (.invokevirtual 139, 3) := by decide +kernel
theorem dL_law_654 : decode cL_law 654 = .ok (.ldc 201, 2) := by decide +kernel
theorem dL_law_656 : decode cL_law 656 = .ok (.invokevirtual 136, 3) := by decide +kernel
theorem dL_law_659 : decode cL_law 659 = .ok (.iload 9, 2) := by decide +kernel
theorem dL_law_661 : decode cL_law 661 = .ok (.invokevirtual 139, 3) := by decide +kernel
theorem dL_law_664 : decode cL_law 664 = .ok (.ldc 203, 2) := by decide +kernel
theorem dL_law_666 : decode cL_law 666 = .ok (.invokevirtual 136, 3) := by decide +kernel
theorem dL_law_669 : decode cL_law 669 = .ok (.iload 12, 2) := by decide +kernel
theorem dL_law_671 : decode cL_law 671 = .ok (.invokevirtual 139, 3) := by decide +kernel
theorem dL_law_674 : decode cL_law 674 = .ok (.ldc 205, 2) := by decide +kernel
theorem dL_law_676 : decode cL_law 676 = .ok (.invokevirtual 136, 3) := by decide +kernel
theorem dL_law_679 : decode cL_law 679 = .ok (.iload 10, 2) := by decide +kernel
theorem dL_law_681 : decode cL_law 681 = .ok (.invokevirtual 139, 3) := by decide +kernel
theorem dL_law_684 : decode cL_law 684 = .ok (.ldc 207, 2) := by decide +kernel
theorem dL_law_686 : decode cL_law 686 = .ok (.invokevirtual 136, 3) := by decide +kernel
theorem dL_law_689 : decode cL_law 689 = .ok (.invokevirtual 144, 3) := by decide +kernel
theorem dL_law_692 : decode cL_law 692 = .ok (.invokestatic 148, 3) := by decide +kernel
theorem dL_law_695 : decode cL_law 695 = .ok (.aload 13, 2) := by decide +kernel
theorem dL_law_697 : decode cL_law 697 = .ok (.invokevirtual 152, 3) := by decide +kernel
theorem dL_law_700 : decode cL_law 700 = .ok (.bipush 6, 2) := by decide +kernel
theorem dL_law_702 : decode cL_law 702 = .ok (.if_icmp .ne 183, 3) := by decide +kernel
theorem dL_law_705 : decode cL_law 705 = .ok (.aload 13, 2) := by decide +kernel
theorem dL_law_707 : decode cL_law 707 = .ok (.iconst 0, 1) := by decide +kernel
theorem dL_law_708 : decode cL_law 708 = .ok (.bipush 6, 2) := by decide +kernel
theorem dL_law_710 : decode cL_law 710 = .ok (.invokevirtual 89, 3) := by decide +kernel
theorem dL_law_713 : decode cL_law 713 = .ok (.iconst 2, 1) := by decide +kernel
theorem dL_law_714 : decode cL_law 714 = .ok (.iload 9, 2) := by decide +kernel
theorem dL_law_716 : decode cL_law 716 = .ok (.imul, 1) := by decide +kernel
theorem dL_law_717 : decode cL_law 717 = .ok (.iconst 5, 1) := by decide +kernel
theorem dL_law_718 : decode cL_law 718 = .ok (.iadd, 1) := by decide +kernel
theorem dL_law_719 : decode cL_law 719 = .ok (.if_icmp .ne 166, 3) := by decide +kernel
theorem dL_law_722 : decode cL_law 722 = .ok (.aload 13, 2) := by decide +kernel
theorem dL_law_724 : decode cL_law 724 = .ok (.aload 13, 2) := by decide +kernel
theorem dL_law_726 : decode cL_law 726 = .ok (.iconst 0, 1) := by decide +kernel
theorem dL_law_727 : decode cL_law 727 = .ok (.invokevirtual 209, 3) := by decide +kernel
theorem dL_law_730 : decode cL_law 730 = .ok (.new 131, 3) := by decide +kernel
theorem dL_law_733 : decode cL_law 733 = .ok (.dup, 1) := by decide +kernel
theorem dL_law_734 : decode cL_law 734 = .ok (.invokespecial 133, 3) := by decide +kernel
theorem dL_law_737 : decode cL_law 737 = .ok (.iload 10, 2) := by decide +kernel
theorem dL_law_739 : decode cL_law 739 = .ok (.invokevirtual 139, 3) := by decide +kernel
theorem dL_law_742 : decode cL_law 742 = .ok (.ldc 201, 2) := by decide +kernel
theorem dL_law_744 : decode cL_law 744 = .ok (.invokevirtual 136, 3) := by decide +kernel
theorem dL_law_747 : decode cL_law 747 = .ok (.iload 9, 2) := by decide +kernel
theorem dL_law_749 : decode cL_law 749 = .ok (.invokevirtual 139, 3) := by decide +kernel
theorem dL_law_752 : decode cL_law 752 = .ok (.ldc 212, 2) := by decide +kernel
theorem dL_law_754 : decode cL_law 754 = .ok (.invokevirtual 136, 3) := by decide +kernel
theorem dL_law_757 : decode cL_law 757 = .ok (.iload 12, 2) := by decide +kernel
theorem dL_law_759 : decode cL_law 759 = .ok (.invokevirtual 139, 3) := by decide +kernel
theorem dL_law_762 : decode cL_law 762 = .ok (.ldc 214, 2) := by decide +kernel
theorem dL_law_764 : decode cL_law 764 = .ok (.invokevirtual 136, 3) := by decide +kernel
theorem dL_law_767 : decode cL_law 767 = .ok (.iload 10, 2) := by decide +kernel
theorem dL_law_769 : decode cL_law 769 = .ok (.invokevirtual 139, 3) := by decide +kernel
theorem dL_law_772 : decode cL_law 772 = .ok (.ldc 216, 2) := by decide +kernel
theorem dL_law_774 : decode cL_law 774 = .ok (.invokevirtual 136, 3) := by decide +kernel
theorem dL_law_777 : decode cL_law 777 = .ok (.invokevirtual 144, 3) := by decide +kernel
theorem dL_law_780 : decode cL_law 780 = .ok (.invokestatic 218, 3) := by decide +kernel
theorem dL_law_783 : decode cL_law 783 = .ok (.ifCond .eq 102, 3) := by decide +kernel
theorem dL_law_786 : decode cL_law 786 = .ok (.aload 13, 2) := by decide +kernel
theorem dL_law_788 : decode cL_law 788 = .ok (.iconst 0, 1) := by decide +kernel
theorem dL_law_789 : decode cL_law 789 = .ok (.iconst 0, 1) := by decide +kernel
theorem dL_law_790 : decode cL_law 790 = .ok (.invokevirtual 222, 3) := by decide +kernel
theorem dL_law_793 : decode cL_law 793 = .ok (.iconst 4, 1) := by decide +kernel
theorem dL_law_794 : decode cL_law 794 = .ok (.if_icmp .ne 91, 3) := by decide +kernel
theorem dL_law_797 : decode cL_law 797 = .ok (.aload 13, 2) := by decide +kernel
theorem dL_law_799 : decode cL_law 799 = .ok (.iconst 0, 1) := by decide +kernel
theorem dL_law_800 : decode cL_law 800 = .ok (.iconst 0, 1) := by decide +kernel
theorem dL_law_801 : decode cL_law 801 = .ok (.iconst 2, 1) := by decide +kernel
theorem dL_law_802 : decode cL_law 802 = .ok (.invokevirtual 225, 3) := by decide +kernel
theorem dL_law_805 : decode cL_law 805 = .ok (.iconst 3, 1) := by decide +kernel
theorem dL_law_806 : decode cL_law 806 = .ok (.if_icmp .ne 79, 3) := by decide +kernel
theorem dL_law_809 : decode cL_law 809 = .ok (.aload 13, 2) := by decide +kernel
theorem dL_law_811 : decode cL_law 811 = .ok (.iconst 1, 1) := by decide +kernel
theorem dL_law_812 : decode cL_law 812 = .ok (.iconst 0, 1) := by decide +kernel
theorem dL_law_813 : decode cL_law 813 = .ok (.invokevirtual 222, 3) := by decide +kernel
theorem dL_law_816 : decode cL_law 816 = .ok (.bipush 7, 2) := by decide +kernel
theorem dL_law_818 : decode cL_law 818 = .ok (.if_icmp .ne 67, 3) := by decide +kernel
theorem dL_law_821 : decode cL_law 821 = .ok (.aload 13, 2) := by decide +kernel
theorem dL_law_823 : decode cL_law 823 = .ok (.iconst 1, 1) := by decide +kernel
theorem dL_law_824 : decode cL_law 824 = .ok (.iconst 0, 1) := by decide +kernel
theorem dL_law_825 : decode cL_law 825 = .ok (.iconst 0, 1) := by decide +kernel
theorem dL_law_826 : decode cL_law 826 = .ok (.invokevirtual 228, 3) := by decide +kernel
theorem dL_law_829 : decode cL_law 829 = .ok (.iconst 2, 1) := by decide +kernel
theorem dL_law_830 : decode cL_law 830 = .ok (.if_icmp .ne 55, 3) := by decide +kernel
theorem dL_law_833 : decode cL_law 833 = .ok (.aload 13, 2) := by decide +kernel
theorem dL_law_835 : decode cL_law 835 = .ok (.iconst 0, 1) := by decide +kernel
theorem dL_law_836 : decode cL_law 836 = .ok (.invokevirtual 231, 3) := by decide +kernel
theorem dL_law_839 : decode cL_law 839 = .ok (.ifCond .ne 46, 3) := by decide +kernel
theorem dL_law_842 : decode cL_law 842 = .ok (.aload 13, 2) := by decide +kernel
theorem dL_law_844 : decode cL_law 844 = .ok (.iconst 1, 1) := by decide +kernel
theorem dL_law_845 : decode cL_law 845 = .ok (.iconst 0, 1) := by decide +kernel
theorem dL_law_846 : decode cL_law 846 = .ok (.iload 10, 2) := by decide +kernel
theorem dL_law_848 : decode cL_law 848 = .ok (.invokevirtual 234, 3) := by decide +kernel
theorem dL_law_851 : decode cL_law 851 = .ok (.iload 9, 2) := by decide +kernel
theorem dL_law_853 : decode cL_law 853 = .ok (.iconst 1, 1) := by decide +kernel
theorem dL_law_854 : decode cL_law 854 = .ok (.iadd, 1) := by decide +kernel
theorem dL_law_855 : decode cL_law 855 = .ok (.if_icmp .ne 30, 3) := by decide +kernel
theorem dL_law_858 : decode cL_law 858 = .ok (.aload 13, 2) := by decide +kernel
theorem dL_law_860 : decode cL_law 860 = .ok (.iconst 1, 1) := by decide +kernel
theorem dL_law_861 : decode cL_law 861 = .ok (.iconst 0, 1) := by decide +kernel
theorem dL_law_862 : decode cL_law 862 = .ok (.iload 11, 2) := by decide +kernel
theorem dL_law_864 : decode cL_law 864 = .ok (.invokevirtual 234, 3) := by decide +kernel
theorem dL_law_867 : decode cL_law 867 = .ok (.iload 9, 2) := by decide +kernel
theorem dL_law_869 : decode cL_law 869 = .ok (.if_icmp .ne 16, 3) := by decide +kernel
theorem dL_law_872 : decode cL_law 872 = .ok (.aload 13, 2) := by decide +kernel
theorem dL_law_874 : decode cL_law 874 = .ok (.iconst 1, 1) := by decide +kernel
theorem dL_law_875 : decode cL_law 875 = .ok (.iconst 0, 1) := by decide +kernel
theorem dL_law_876 : decode cL_law 876 = .ok (.iload 12, 2) := by decide +kernel
theorem dL_law_878 : decode cL_law 878 = .ok (.invokevirtual 234, 3) := by decide +kernel
theorem dL_law_881 : decode cL_law 881 = .ok (.iconst 4, 1) := by decide +kernel
theorem dL_law_882 : decode cL_law 882 = .ok (.if_icmp .eq 5, 3) := by decide +kernel
theorem dL_law_885 : decode cL_law 885 = .ok (.iconst 0, 1) := by decide +kernel
theorem dL_law_886 : decode cL_law 886 = .ok (.ireturn, 1) := by decide +kernel
theorem dL_law_887 : decode cL_law 887 = .ok (.aload 13, 2) := by decide +kernel
theorem dL_law_889 : decode cL_law 889 = .ok (.iconst 0, 1) := by decide +kernel
theorem dL_law_890 : decode cL_law 890 = .ok (.iconst 0, 1) := by decide +kernel
theorem dL_law_891 : decode cL_law 891 = .ok (.invokevirtual 237, 3) := by decide +kernel
theorem dL_law_894 : decode cL_law 894 = .ok (.iconst 1, 1) := by decide +kernel
theorem dL_law_895 : decode cL_law 895 = .ok (.if_icmp .ne 252, 3) := by decide +kernel
theorem dL_law_898 : decode cL_law 898 = .ok (.aload 13, 2) := by decide +kernel
theorem dL_law_900 : decode cL_law 900 = .ok (.iconst 1, 1) := by decide +kernel
theorem dL_law_901 : decode cL_law 901 = .ok (.iconst 0, 1) := by decide +kernel
theorem dL_law_902 : decode cL_law 902 = .ok (.invokevirtual 237, 3) := by decide +kernel
theorem dL_law_905 : decode cL_law 905 = .ok (.iconst 3, 1) := by decide +kernel
theorem dL_law_906 : decode cL_law 906 = .ok (.if_icmp .ne 241, 3) := by decide +kernel
theorem dL_law_909 : decode cL_law 909 = .ok (.aload 13, 2) := by decide +kernel
theorem dL_law_911 : decode cL_law 911 = .ok (.iconst 0, 1) := by decide +kernel
theorem dL_law_912 : decode cL_law 912 = .ok (.invokevirtual 51, 3) := by decide +kernel
theorem dL_law_915 : decode cL_law 915 = .ok (.iconst 2, 1) := by decide +kernel
theorem dL_law_916 : decode cL_law 916 = .ok (.if_icmp .ne 231, 3) := by decide +kernel
theorem dL_law_919 : decode cL_law 919 = .ok (.aload 13, 2) := by decide +kernel
theorem dL_law_921 : decode cL_law 921 = .ok (.iconst 0, 1) := by decide +kernel
theorem dL_law_922 : decode cL_law 922 = .ok (.iconst 0, 1) := by decide +kernel
theorem dL_law_923 : decode cL_law 923 = .ok (.iconst 2, 1) := by decide +kernel
theorem dL_law_924 : decode cL_law 924 = .ok (.invokevirtual 225, 3) := by decide +kernel
theorem dL_law_927 : decode cL_law 927 = .ok (.iconst 1, 1) := by decide +kernel
theorem dL_law_928 : decode cL_law 928 = .ok (.if_icmp .ne 219, 3) := by decide +kernel
theorem dL_law_931 : decode cL_law 931 = .ok (.aload 13, 2) := by decide +kernel
theorem dL_law_933 : decode cL_law 933 = .ok (.iconst 0, 1) := by decide +kernel
theorem dL_law_934 : decode cL_law 934 = .ok (.iconst 0, 1) := by decide +kernel
theorem dL_law_935 : decode cL_law 935 = .ok (.invokevirtual 222, 3) := by decide +kernel
theorem dL_law_938 : decode cL_law 938 = .ok (.iconst 4, 1) := by decide +kernel
theorem dL_law_939 : decode cL_law 939 = .ok (.if_icmp .ne 208, 3) := by decide +kernel
theorem dL_law_942 : decode cL_law 942 = .ok (.aload 13, 2) := by decide +kernel
theorem dL_law_944 : decode cL_law 944 = .ok (.iconst 0, 1) := by decide +kernel
theorem dL_law_945 : decode cL_law 945 = .ok (.invokevirtual 51, 3) := by decide +kernel
theorem dL_law_948 : decode cL_law 948 = .ok (.iconst 1, 1) := by decide +kernel
theorem dL_law_949 : decode cL_law 949 = .ok (.if_icmp .ne 198, 3) := by decide +kernel
theorem dL_law_952 : decode cL_law 952 = .ok (.aload 13, 2) := by decide +kernel
theorem dL_law_954 : decode cL_law 954 = .ok (.iconst 0, 1) := by decide +kernel
theorem dL_law_955 : decode cL_law 955 = .ok (.iconst 0, 1) := by decide +kernel
theorem dL_law_956 : decode cL_law 956 = .ok (.invokevirtual 222, 3) := by decide +kernel
theorem dL_law_959 : decode cL_law 959 = .ok (.bipush 6, 2) := by decide +kernel
theorem dL_law_961 : decode cL_law 961 = .ok (.if_icmp .ne 186, 3) := by decide +kernel
theorem dL_law_964 : decode cL_law 964 = .ok (.aload 13, 2) := by decide +kernel
theorem dL_law_966 : decode cL_law 966 = .ok (.aload 13, 2) := by decide +kernel
theorem dL_law_968 : decode cL_law 968 = .ok (.iconst 0, 1) := by decide +kernel
theorem dL_law_969 : decode cL_law 969 = .ok (.invokevirtual 209, 3) := by decide +kernel
theorem dL_law_972 : decode cL_law 972 = .ok (.new 131, 3) := by decide +kernel
theorem dL_law_975 : decode cL_law 975 = .ok (.dup, 1) := by decide +kernel
theorem dL_law_976 : decode cL_law 976 = .ok (.invokespecial 133, 3) := by decide +kernel
theorem dL_law_979 : decode cL_law 979 = .ok (.iload 10, 2) := by decide +kernel
theorem dL_law_981 : decode cL_law 981 = .ok (.invokevirtual 139, 3) := by decide +kernel
theorem dL_law_984 : decode cL_law 984 = .ok (.ldc 201, 2) := by decide +kernel
theorem dL_law_986 : decode cL_law 986 = .ok (.invokevirtual 136, 3) := by decide +kernel
theorem dL_law_989 : decode cL_law 989 = .ok (.iload 9, 2) := by decide +kernel
theorem dL_law_991 : decode cL_law 991 = .ok (.invokevirtual 139, 3) := by decide +kernel
theorem dL_law_994 : decode cL_law 994 = .ok (.ldc 240, 2) := by decide +kernel
theorem dL_law_996 : decode cL_law 996 = .ok (.invokevirtual 136, 3) := by decide +kernel
theorem dL_law_999 : decode cL_law 999 = .ok (.iload 12, 2) := by decide +kernel
theorem dL_law_1001 : decode cL_law 1001 = .ok (.invokevirtual 139, 3) := by decide +kernel
theorem dL_law_1004 : decode cL_law 1004 = .ok (.ldc 214, 2) := by decide +kernel
theorem dL_law_1006 : decode cL_law 1006 = .ok (.invokevirtual 136, 3) := by decide +kernel
theorem dL_law_1009 : decode cL_law 1009 = .ok (.iload 10, 2) := by decide +kernel
theorem dL_law_1011 : decode cL_law 1011 = .ok (.invokevirtual 139, 3) := by decide +kernel
theorem dL_law_1014 : decode cL_law 1014 = .ok (.ldc 216, 2) := by decide +kernel
theorem dL_law_1016 : decode cL_law 1016 = .ok (.invokevirtual 136, 3) := by decide +kernel
theorem dL_law_1019 : decode cL_law 1019 = .ok (.invokevirtual 144, 3) := by decide +kernel
theorem dL_law_1022 : decode cL_law 1022 = .ok (.invokestatic 218, 3) := by decide +kernel
theorem dL_law_1025 : decode cL_law 1025 = .ok (.ifCond .eq 122, 3) := by decide +kernel
theorem dL_law_1028 : decode cL_law 1028 = .ok (.aload 13, 2) := by decide +kernel
theorem dL_law_1030 : decode cL_law 1030 = .ok (.iconst 0, 1) := by decide +kernel
theorem dL_law_1031 : decode cL_law 1031 = .ok (.invokevirtual 54, 3) := by decide +kernel
theorem dL_law_1034 : decode cL_law 1034 = .ok (.iconst 2, 1) := by decide +kernel
theorem dL_law_1035 : decode cL_law 1035 = .ok (.if_icmp .ne 112, 3) := by decide +kernel
theorem dL_law_1038 : decode cL_law 1038 = .ok (.aload 13, 2) := by decide +kernel
theorem dL_law_1040 : decode cL_law 1040 = .ok (.iconst 0, 1) := by decide +kernel
theorem dL_law_1041 : decode cL_law 1041 = .ok (.iconst 0, 1) := by decide +kernel
theorem dL_law_1042 : decode cL_law 1042 = .ok (.invokevirtual 63, 3) := by decide +kernel
theorem dL_law_1045 : decode cL_law 1045 = .ok (.iconst 2, 1) := by decide +kernel
theorem dL_law_1046 : decode cL_law 1046 = .ok (.if_icmp .ne 101, 3) := by decide +kernel
theorem dL_law_1049 : decode cL_law 1049 = .ok (.aload 13, 2) := by decide +kernel
theorem dL_law_1051 : decode cL_law 1051 = .ok (.iload 10, 2) := by decide +kernel
theorem dL_law_1053 : decode cL_law 1053 = .ok (.invokevirtual 83, 3) := by decide +kernel
theorem dL_law_1056 : decode cL_law 1056 = .ok (.iconst 1, 1) := by decide +kernel
theorem dL_law_1057 : decode cL_law 1057 = .ok (.if_icmp .ne 90, 3) := by decide +kernel
theorem dL_law_1060 : decode cL_law 1060 = .ok (.aload 13, 2) := by decide +kernel
theorem dL_law_1062 : decode cL_law 1062 = .ok (.iconst 0, 1) := by decide +kernel
theorem dL_law_1063 : decode cL_law 1063 = .ok (.bipush 7, 2) := by decide +kernel
theorem dL_law_1065 : decode cL_law 1065 = .ok (.invokevirtual 89, 3) := by decide +kernel
theorem dL_law_1068 : decode cL_law 1068 = .ok (.iconst 1, 1) := by decide +kernel
theorem dL_law_1069 : decode cL_law 1069 = .ok (.if_icmp .ne 78, 3) := by decide +kernel
theorem dL_law_1072 : decode cL_law 1072 = .ok (.aload 13, 2) := by decide +kernel
theorem dL_law_1074 : decode cL_law 1074 = .ok (.invokevirtual 242, 3) := by decide +kernel
theorem dL_law_1077 : decode cL_law 1077 = .ok (.ldc 246, 2) := by decide +kernel
theorem dL_law_1079 : decode cL_law 1079 = .ok (.fcmp .l, 1) := by decide +kernel
theorem dL_law_1080 : decode cL_law 1080 = .ok (.ifCond .ne 67, 3) := by decide +kernel
theorem dL_law_1083 : decode cL_law 1083 = .ok (.aload 13, 2) := by decide +kernel
theorem dL_law_1085 : decode cL_law 1085 = .ok (.aload 13, 2) := by decide +kernel
theorem dL_law_1087 : decode cL_law 1087 = .ok (.iconst 0, 1) := by decide +kernel
theorem dL_law_1088 : decode cL_law 1088 = .ok (.invokevirtual 209, 3) := by decide +kernel
theorem dL_law_1091 : decode cL_law 1091 = .ok (.new 131, 3) := by decide +kernel
theorem dL_law_1094 : decode cL_law 1094 = .ok (.dup, 1) := by decide +kernel
theorem dL_law_1095 : decode cL_law 1095 = .ok (.invokespecial 133, 3) := by decide +kernel
theorem dL_law_1098 : decode cL_law 1098 = .ok (.iload 10, 2) := by decide +kernel
theorem dL_law_1100 : decode cL_law 1100 = .ok (.invokevirtual 139, 3) := by decide +kernel
theorem dL_law_1103 : decode cL_law 1103 = .ok (.ldc 201, 2) := by decide +kernel
theorem dL_law_1105 : decode cL_law 1105 = .ok (.invokevirtual 136, 3) := by decide +kernel
theorem dL_law_1108 : decode cL_law 1108 = .ok (.iload 9, 2) := by decide +kernel
theorem dL_law_1110 : decode cL_law 1110 = .ok (.invokevirtual 139, 3) := by decide +kernel
theorem dL_law_1113 : decode cL_law 1113 = .ok (.ldc 212, 2) := by decide +kernel
theorem dL_law_1115 : decode cL_law 1115 = .ok (.invokevirtual 136, 3) := by decide +kernel
theorem dL_law_1118 : decode cL_law 1118 = .ok (.iload 12, 2) := by decide +kernel
theorem dL_law_1120 : decode cL_law 1120 = .ok (.invokevirtual 139, 3) := by decide +kernel
theorem dL_law_1123 : decode cL_law 1123 = .ok (.ldc 247, 2) := by decide +kernel
theorem dL_law_1125 : decode cL_law 1125 = .ok (.invokevirtual 136, 3) := by decide +kernel
theorem dL_law_1128 : decode cL_law 1128 = .ok (.iload 10, 2) := by decide +kernel
theorem dL_law_1130 : decode cL_law 1130 = .ok (.invokevirtual 139, 3) := by decide +kernel
theorem dL_law_1133 : decode cL_law 1133 = .ok (.ldc 249, 2) := by decide +kernel
theorem dL_law_1135 : decode cL_law 1135 = .ok (.invokevirtual 136, 3) := by decide +kernel
theorem dL_law_1138 : decode cL_law 1138 = .ok (.invokevirtual 144, 3) := by decide +kernel
theorem dL_law_1141 : decode cL_law 1141 = .ok (.invokestatic 218, 3) := by decide +kernel
theorem dL_law_1144 : decode cL_law 1144 = .ok (.ifCond .ne 5, 3) := by decide +kernel
theorem dL_law_1147 : decode cL_law 1147 = .ok (.iconst 0, 1) := by decide +kernel
theorem dL_law_1148 : decode cL_law 1148 = .ok (.ireturn, 1) := by decide +kernel
theorem dL_law_1149 : decode cL_law 1149 = .ok (.aload 13, 2) := by decide +kernel
theorem dL_law_1151 : decode cL_law 1151 = .ok (.bipush 7, 2) := by decide +kernel
theorem dL_law_1153 : decode cL_law 1153 = .ok (.iconst 0, 1) := by decide +kernel
theorem dL_law_1154 : decode cL_law 1154 = .ok (.iconst 0, 1) := by decide +kernel
theorem dL_law_1155 : decode cL_law 1155 = .ok (.iconst 0, 1) := by decide +kernel
theorem dL_law_1156 : decode cL_law 1156 = .ok (.iconst 0, 1) := by decide +kernel
theorem dL_law_1157 : decode cL_law 1157 = .ok (.iconst 0, 1) := by decide +kernel
theorem dL_law_1158 : decode cL_law 1158 = .ok (.invokestatic 30, 3) := by decide +kernel
theorem dL_law_1161 : decode cL_law 1161 = .ok (.bipush (-2), 2) := by decide +kernel
theorem dL_law_1163 : decode cL_law 1163 = .ok (.if_icmp .ne 203, 3) := by decide +kernel
theorem dL_law_1166 : decode cL_law 1166 = .ok (.aload 13, 2) := by decide +kernel
theorem dL_law_1168 : decode cL_law 1168 = .ok (.iconst 0, 1) := by decide +kernel
theorem dL_law_1169 : decode cL_law 1169 = .ok (.invokevirtual 164, 3) := by decide +kernel
theorem dL_law_1172 : decode cL_law 1172 = .ok (.bipush 9, 2) := by decide +kernel
theorem dL_law_1174 : decode cL_law 1174 = .ok (.if_icmp .ne 192, 3) := by decide +kernel
theorem dL_law_1177 : decode cL_law 1177 = .ok (.aload 13, 2) := by decide +kernel
theorem dL_law_1179 : decode cL_law 1179 = .ok (.iload 10, 2) := by decide +kernel
theorem dL_law_1181 : decode cL_law 1181 = .ok (.iconst 1, 1) := by decide +kernel
theorem dL_law_1182 : decode cL_law 1182 = .ok (.invokevirtual 75, 3) := by decide +kernel
theorem dL_law_1185 : decode cL_law 1185 = .ok (.ifCond .ne 181, 3) := by decide +kernel
theorem dL_law_1188 : decode cL_law 1188 = .ok (.aload 13, 2) := by decide +kernel
theorem dL_law_1190 : decode cL_law 1190 = .ok (.bipush 7, 2) := by decide +kernel
theorem dL_law_1192 : decode cL_law 1192 = .ok (.iconst 0, 1) := by decide +kernel
theorem dL_law_1193 : decode cL_law 1193 = .ok (.iconst 2, 1) := by decide +kernel
theorem dL_law_1194 : decode cL_law 1194 = .ok (.iconst 0, 1) := by decide +kernel
theorem dL_law_1195 : decode cL_law 1195 = .ok (.iconst 0, 1) := by decide +kernel
theorem dL_law_1196 : decode cL_law 1196 = .ok (.iconst 0, 1) := by decide +kernel
theorem dL_law_1197 : decode cL_law 1197 = .ok (.invokestatic 30, 3) := by decide +kernel
theorem dL_law_1200 : decode cL_law 1200 = .ok (.bipush (-2), 2) := by decide +kernel
theorem dL_law_1202 : decode cL_law 1202 = .ok (.if_icmp .ne 164, 3) := by decide +kernel
theorem dL_law_1205 : decode cL_law 1205 = .ok (.aload 13, 2) := by decide +kernel
theorem dL_law_1207 : decode cL_law 1207 = .ok (.iconst 0, 1) := by decide +kernel
theorem dL_law_1208 : decode cL_law 1208 = .ok (.invokevirtual 164, 3) := by decide +kernel
theorem dL_law_1211 : decode cL_law 1211 = .ok (.bipush 10, 2) := by decide +kernel
theorem dL_law_1213 : decode cL_law 1213 = .ok (.if_icmp .ne 153, 3) := by decide +kernel
theorem dL_law_1216 : decode cL_law 1216 = .ok (.aload 13, 2) := by decide +kernel
theorem dL_law_1218 : decode cL_law 1218 = .ok (.iconst 1, 1) := by decide +kernel
theorem dL_law_1219 : decode cL_law 1219 = .ok (.invokevirtual 164, 3) := by decide +kernel
theorem dL_law_1222 : decode cL_law 1222 = .ok (.iload 10, 2) := by decide +kernel
theorem dL_law_1224 : decode cL_law 1224 = .ok (.if_icmp .ne 142, 3) := by decide +kernel
theorem dL_law_1227 : decode cL_law 1227 = .ok (.aload 13, 2) := by decide +kernel
theorem dL_law_1229 : decode cL_law 1229 = .ok (.bipush 8, 2) := by decide +kernel
theorem dL_law_1231 : decode cL_law 1231 = .ok (.iconst 0, 1) := by decide +kernel
theorem dL_law_1232 : decode cL_law 1232 = .ok (.iconst 0, 1) := by decide +kernel
theorem dL_law_1233 : decode cL_law 1233 = .ok (.iconst 0, 1) := by decide +kernel
theorem dL_law_1234 : decode cL_law 1234 = .ok (.iconst 0, 1) := by decide +kernel
theorem dL_law_1235 : decode cL_law 1235 = .ok (.iconst 0, 1) := by decide +kernel
theorem dL_law_1236 : decode cL_law 1236 = .ok (.invokestatic 30, 3) := by decide +kernel
theorem dL_law_1239 : decode cL_law 1239 = .ok (.bipush (-2), 2) := by decide +kernel
theorem dL_law_1241 : decode cL_law 1241 = .ok (.if_icmp .ne 125, 3) := by decide +kernel
theorem dL_law_1244 : decode cL_law 1244 = .ok (.aload 13, 2) := by decide +kernel
theorem dL_law_1246 : decode cL_law 1246 = .ok (.iconst 0, 1) := by decide +kernel
theorem dL_law_1247 : decode cL_law 1247 = .ok (.invokevirtual 164, 3) := by decide +kernel
theorem dL_law_1250 : decode cL_law 1250 = .ok (.bipush 10, 2) := by decide +kernel
theorem dL_law_1252 : decode cL_law 1252 = .ok (.if_icmp .ne 114, 3) := by decide +kernel
theorem dL_law_1255 : decode cL_law 1255 = .ok (.aload 13, 2) := by decide +kernel
theorem dL_law_1257 : decode cL_law 1257 = .ok (.iconst 0, 1) := by decide +kernel
theorem dL_law_1258 : decode cL_law 1258 = .ok (.iconst 2, 1) := by decide +kernel
theorem dL_law_1259 : decode cL_law 1259 = .ok (.invokevirtual 251, 3) := by decide +kernel
theorem dL_law_1262 : decode cL_law 1262 = .ok (.ifCond .ne 104, 3) := by decide +kernel
theorem dL_law_1265 : decode cL_law 1265 = .ok (.aload 13, 2) := by decide +kernel
theorem dL_law_1267 : decode cL_law 1267 = .ok (.iconst 0, 1) := by decide +kernel
theorem dL_law_1268 : decode cL_law 1268 = .ok (.invokevirtual 255, 3) := by decide +kernel
theorem dL_law_1271 : decode cL_law 1271 = .ok (.ifCond .ne 95, 3) := by decide +kernel
theorem dL_law_1274 : decode cL_law 1274 = .ok (.aload 13, 2) := by decide +kernel
theorem dL_law_1276 : decode cL_law 1276 = .ok (.iload 10, 2) := by decide +kernel
theorem dL_law_1278 : decode cL_law 1278 = .ok (.invokevirtual 86, 3) := by decide +kernel
theorem dL_law_1281 : decode cL_law 1281 = .ok (.iconst 1, 1) := by decide +kernel
theorem dL_law_1282 : decode cL_law 1282 = .ok (.if_icmp .ne 84, 3) := by decide +kernel
theorem dL_law_1285 : decode cL_law 1285 = .ok (.aload 13, 2) := by decide +kernel
theorem dL_law_1287 : decode cL_law 1287 = .ok (.invokevirtual 195, 3) := by decide +kernel
theorem dL_law_1290 : decode cL_law 1290 = .ok (.ifCond .eq 76, 3) := by decide +kernel
theorem dL_law_1293 : decode cL_law 1293 = .ok (.aload 13, 2) := by decide +kernel
theorem dL_law_1295 : decode cL_law 1295 = .ok (.iload 10, 2) := by decide +kernel
theorem dL_law_1297 : decode cL_law 1297 = .ok (.iconst 1, 1) := by decide +kernel
theorem dL_law_1298 : decode cL_law 1298 = .ok (.invokevirtual 78, 3) := by decide +kernel
theorem dL_law_1301 : decode cL_law 1301 = .ok (.ifCond .ne 65, 3) := by decide +kernel
theorem dL_law_1304 : decode cL_law 1304 = .ok (.aload 13, 2) := by decide +kernel
theorem dL_law_1306 : decode cL_law 1306 = .ok (.iconst 0, 1) := by decide +kernel
theorem dL_law_1307 : decode cL_law 1307 = .ok (.invokevirtual 255, 3) := by decide +kernel
theorem dL_law_1310 : decode cL_law 1310 = .ok (.iconst 1, 1) := by decide +kernel
theorem dL_law_1311 : decode cL_law 1311 = .ok (.if_icmp .ne 55, 3) := by decide +kernel
theorem dL_law_1314 : decode cL_law 1314 = .ok (.aload 13, 2) := by decide +kernel
theorem dL_law_1316 : decode cL_law 1316 = .ok (.iconst 0, 1) := by decide +kernel
theorem dL_law_1317 : decode cL_law 1317 = .ok (.iconst 2, 1) := by decide +kernel
theorem dL_law_1318 : decode cL_law 1318 = .ok (.invokevirtual 66, 3) := by decide +kernel
theorem dL_law_1321 : decode cL_law 1321 = .ok (.ifCond .ne 45, 3) := by decide +kernel
theorem dL_law_1324 : decode cL_law 1324 = .ok (.aload 13, 2) := by decide +kernel
theorem dL_law_1326 : decode cL_law 1326 = .ok (.iload 10, 2) := by decide +kernel
theorem dL_law_1328 : decode cL_law 1328 = .ok (.invokevirtual 83, 3) := by decide +kernel
theorem dL_law_1331 : decode cL_law 1331 = .ok (.ifCond .ne 35, 3) := by decide +kernel
theorem dL_law_1334 : decode cL_law 1334 = .ok (.aload 13, 2) := by decide +kernel
theorem dL_law_1336 : decode cL_law 1336 = .ok (.bipush 7, 2) := by decide +kernel
theorem dL_law_1338 : decode cL_law 1338 = .ok (.invokevirtual 34, 3) := by decide +kernel
theorem dL_law_1341 : decode cL_law 1341 = .ok (.iconst 1, 1) := by decide +kernel
theorem dL_law_1342 : decode cL_law 1342 = .ok (.if_icmp .ne 24, 3) := by decide +kernel
theorem dL_law_1345 : decode cL_law 1345 = .ok (.aload 13, 2) := by decide +kernel
theorem dL_law_1347 : decode cL_law 1347 = .ok (.iconst 0, 1) := by decide +kernel
theorem dL_law_1348 : decode cL_law 1348 = .ok (.iconst 3, 1) := by decide +kernel
theorem dL_law_1349 : decode cL_law 1349 = .ok (.invokevirtual 96, 3) := by decide +kernel
theorem dL_law_1352 : decode cL_law 1352 = .ok (.iconst 1, 1) := by decide +kernel
theorem dL_law_1353 : decode cL_law 1353 = .ok (.if_icmp .ne 13, 3) := by decide +kernel
theorem dL_law_1356 : decode cL_law 1356 = .ok (.aload 13, 2) := by decide +kernel
theorem dL_law_1358 : decode cL_law 1358 = .ok (.iconst 0, 1) := by decide +kernel
theorem dL_law_1359 : decode cL_law 1359 = .ok (.iconst 4, 1) := by decide +kernel
theorem dL_law_1360 : decode cL_law 1360 = .ok (.invokevirtual 96, 3) := by decide +kernel
theorem dL_law_1363 : decode cL_law 1363 = .ok (.ifCond .eq 5, 3) := by decide +kernel
theorem dL_law_1366 : decode cL_law 1366 = .ok (.iconst 0, 1) := by decide +kernel
theorem dL_law_1367 : decode cL_law 1367 = .ok (.ireturn, 1) := by decide +kernel
theorem dL_law_1368 : decode cL_law 1368 = .ok (.aload 13, 2) := by decide +kernel
theorem dL_law_1370 : decode cL_law 1370 = .ok (.iconst 3, 1) := by decide +kernel
theorem dL_law_1371 : decode cL_law 1371 = .ok (.iconst 0, 1) := by decide +kernel
theorem dL_law_1372 : decode cL_law 1372 = .ok (.iconst 0, 1) := by decide +kernel
theorem dL_law_1373 : decode cL_law 1373 = .ok (.iconst 0, 1) := by decide +kernel
theorem dL_law_1374 : decode cL_law 1374 = .ok (.iconst 0, 1) := by decide +kernel
theorem dL_law_1375 : decode cL_law 1375 = .ok (.iconst 0, 1) := by decide +kernel
theorem dL_law_1376 : decode cL_law 1376 = .ok (.invokestatic 30, 3) := by decide +kernel
theorem dL_law_1379 : decode cL_law 1379 = .ok (.bipush (-2), 2) := by decide +kernel
theorem dL_law_1381 : decode cL_law 1381 = .ok (.if_icmp .ne 167, 3) := by decide +kernel
theorem dL_law_1384 : decode cL_law 1384 = .ok (.aload 13, 2) := by decide +kernel
theorem dL_law_1386 : decode cL_law 1386 = .ok (.iconst 0, 1) := by decide +kernel
theorem dL_law_1387 : decode cL_law 1387 = .ok (.invokevirtual 164, 3) := by decide +kernel
theorem dL_law_1390 : decode cL_law 1390 = .ok (.bipush 6, 2) := by decide +kernel
theorem dL_law_1392 : decode cL_law 1392 = .ok (.if_icmp .ne 156, 3) := by decide +kernel
theorem dL_law_1395 : decode cL_law 1395 = .ok (.aload 13, 2) := by decide +kernel
theorem dL_law_1397 : decode cL_law 1397 = .ok (.iconst 1, 1) := by decide +kernel
theorem dL_law_1398 : decode cL_law 1398 = .ok (.invokevirtual 164, 3) := by decide +kernel
theorem dL_law_1401 : decode cL_law 1401 = .ok (.ifCond .ne 147, 3) := by decide +kernel
theorem dL_law_1404 : decode cL_law 1404 = .ok (.aload 13, 2) := by decide +kernel
theorem dL_law_1406 : decode cL_law 1406 = .ok (.iconst 0, 1) := by decide +kernel
theorem dL_law_1407 : decode cL_law 1407 = .ok (.invokevirtual 69, 3) := by decide +kernel
theorem dL_law_1410 : decode cL_law 1410 = .ok (.ifCond .ne 138, 3) := by decide +kernel
theorem dL_law_1413 : decode cL_law 1413 = .ok (.aload 13, 2) := by decide +kernel
theorem dL_law_1415 : decode cL_law 1415 = .ok (.iconst 3, 1) := by decide +kernel
theorem dL_law_1416 : decode cL_law 1416 = .ok (.invokevirtual 34, 3) := by decide +kernel
theorem dL_law_1419 : decode cL_law 1419 = .ok (.ifCond .ne 129, 3) := by decide +kernel
theorem dL_law_1422 : decode cL_law 1422 = .ok (.aload 13, 2) := by decide +kernel
theorem dL_law_1424 : decode cL_law 1424 = .ok (.iconst 0, 1) := by decide +kernel
theorem dL_law_1425 : decode cL_law 1425 = .ok (.invokevirtual 54, 3) := by decide +kernel
theorem dL_law_1428 : decode cL_law 1428 = .ok (.iconst 3, 1) := by decide +kernel
theorem dL_law_1429 : decode cL_law 1429 = .ok (.if_icmp .ne 119, 3) := by decide +kernel
theorem dL_law_1432 : decode cL_law 1432 = .ok (.aload 13, 2) := by decide +kernel
theorem dL_law_1434 : decode cL_law 1434 = .ok (.iconst 1, 1) := by decide +kernel
theorem dL_law_1435 : decode cL_law 1435 = .ok (.iconst 0, 1) := by decide +kernel
theorem dL_law_1436 : decode cL_law 1436 = .ok (.invokevirtual 258, 3) := by decide +kernel
theorem dL_law_1439 : decode cL_law 1439 = .ok (.ifCond .ne 109, 3) := by decide +kernel
theorem dL_law_1442 : decode cL_law 1442 = .ok (.aload 13, 2) := by decide +kernel
theorem dL_law_1444 : decode cL_law 1444 = .ok (.iconst 1, 1) := by decide +kernel
theorem dL_law_1445 : decode cL_law 1445 = .ok (.iconst 0, 1) := by decide +kernel
theorem dL_law_1446 : decode cL_law 1446 = .ok (.invokevirtual 60, 3) := by decide +kernel
theorem dL_law_1449 : decode cL_law 1449 = .ok (.iconst 1, 1) := by decide +kernel
theorem dL_law_1450 : decode cL_law 1450 = .ok (.if_icmp .ne 98, 3) := by decide +kernel
theorem dL_law_1453 : decode cL_law 1453 = .ok (.aload 13, 2) := by decide +kernel
theorem dL_law_1455 : decode cL_law 1455 = .ok (.iconst 1, 1) := by decide +kernel
theorem dL_law_1456 : decode cL_law 1456 = .ok (.iconst 0, 1) := by decide +kernel
theorem dL_law_1457 : decode cL_law 1457 = .ok (.invokevirtual 222, 3) := by decide +kernel
theorem dL_law_1460 : decode cL_law 1460 = .ok (.iconst 2, 1) := by decide +kernel
theorem dL_law_1461 : decode cL_law 1461 = .ok (.if_icmp .ne 87, 3) := by decide +kernel
theorem dL_law_1464 : decode cL_law 1464 = .ok (.aload 13, 2) := by decide +kernel
theorem dL_law_1466 : decode cL_law 1466 = .ok (.iconst 1, 1) := by decide +kernel
theorem dL_law_1467 : decode cL_law 1467 = .ok (.iconst 0, 1) := by decide +kernel
theorem dL_law_1468 : decode cL_law 1468 = .ok (.invokevirtual 258, 3) := by decide +kernel
theorem dL_law_1471 : decode cL_law 1471 = .ok (.iconst 1, 1) := by decide +kernel
theorem dL_law_1472 : decode cL_law 1472 = .ok (.if_icmp .ne 76, 3) := by decide +kernel
theorem dL_law_1475 : decode cL_law 1475 = .ok (.aload 13, 2) := by decide +kernel
theorem dL_law_1477 : decode cL_law 1477 = .ok (.iconst 1, 1) := by decide +kernel
theorem dL_law_1478 : decode cL_law 1478 = .ok (.iconst 0, 1) := by decide +kernel
theorem dL_law_1479 : decode cL_law 1479 = .ok (.invokevirtual 63, 3) := by decide +kernel
theorem dL_law_1482 : decode cL_law 1482 = .ok (.iconst 2, 1) := by decide +kernel
theorem dL_law_1483 : decode cL_law 1483 = .ok (.if_icmp .ne 65, 3) := by decide +kernel
theorem dL_law_1486 : decode cL_law 1486 = .ok (.aload 13, 2) := by decide +kernel
theorem dL_law_1488 : decode cL_law 1488 = .ok (.iload 12, 2) := by decide +kernel
theorem dL_law_1490 : decode cL_law 1490 = .ok (.invokevirtual 83, 3) := by decide +kernel
theorem dL_law_1493 : decode cL_law 1493 = .ok (.iconst 4, 1) := by decide +kernel
theorem dL_law_1494 : decode cL_law 1494 = .ok (.if_icmp .ne 54, 3) := by decide +kernel
theorem dL_law_1497 : decode cL_law 1497 = .ok (.aload 13, 2) := by decide +kernel
theorem dL_law_1499 : decode cL_law 1499 = .ok (.iconst 3, 1) := by decide +kernel
theorem dL_law_1500 : decode cL_law 1500 = .ok (.iconst 0, 1) := by decide +kernel
theorem dL_law_1501 : decode cL_law 1501 = .ok (.invokevirtual 261, 3) := by decide +kernel
theorem dL_law_1504 : decode cL_law 1504 = .ok (.ifCond .ne 44, 3) := by decide +kernel
theorem dL_law_1507 : decode cL_law 1507 = .ok (.aload 13, 2) := by decide +kernel
theorem dL_law_1509 : decode cL_law 1509 = .ok (.iconst 0, 1) := by decide +kernel
theorem dL_law_1510 : decode cL_law 1510 = .ok (.invokevirtual 69, 3) := by decide +kernel
theorem dL_law_1513 : decode cL_law 1513 = .ok (.iconst 4, 1) := by decide +kernel
theorem dL_law_1514 : decode cL_law 1514 = .ok (.if_icmp .ne 34, 3) := by decide +kernel
theorem dL_law_1517 : decode cL_law 1517 = .ok (.aload 13, 2) := by decide +kernel
theorem dL_law_1519 : decode cL_law 1519 = .ok (.iload 12, 2) := by decide +kernel
theorem dL_law_1521 : decode cL_law 1521 = .ok (.invokevirtual 83, 3) := by decide +kernel
theorem dL_law_1524 : decode cL_law 1524 = .ok (.ifCond .ne 24, 3) := by decide +kernel
theorem dL_law_1527 : decode cL_law 1527 = .ok (.aload 13, 2) := by decide +kernel
theorem dL_law_1529 : decode cL_law 1529 = .ok (.iconst 5, 1) := by decide +kernel
theorem dL_law_1530 : decode cL_law 1530 = .ok (.invokevirtual 34, 3) := by decide +kernel
theorem dL_law_1533 : decode cL_law 1533 = .ok (.iconst 2, 1) := by decide +kernel
theorem dL_law_1534 : decode cL_law 1534 = .ok (.if_icmp .ne 14, 3) := by decide +kernel
theorem dL_law_1537 : decode cL_law 1537 = .ok (.aload 13, 2) := by decide +kernel
theorem dL_law_1539 : decode cL_law 1539 = .ok (.bipush 8, 2) := by decide +kernel
theorem dL_law_1541 : decode cL_law 1541 = .ok (.invokevirtual 34, 3) := by decide +kernel
theorem dL_law_1544 : decode cL_law 1544 = .ok (.iconst 2, 1) := by decide +kernel
theorem dL_law_1545 : decode cL_law 1545 = .ok (.if_icmp .eq 5, 3) := by decide +kernel
theorem dL_law_1548 : decode cL_law 1548 = .ok (.iconst 0, 1) := by decide +kernel
theorem dL_law_1549 : decode cL_law 1549 = .ok (.ireturn, 1) := by decide +kernel
theorem dL_law_1550 : decode cL_law 1550 = .ok (.aload_n 1, 1) := by decide +kernel
theorem dL_law_1551 : decode cL_law 1551 = .ok (.invokevirtual 264, 3) := by decide +kernel
theorem dL_law_1554 : decode cL_law 1554 = .ok (.iload_n 3, 1) := by decide +kernel
theorem dL_law_1555 : decode cL_law 1555 = .ok (.if_icmp .ne 25, 3) := by decide +kernel
theorem dL_law_1558 : decode cL_law 1558 = .ok (.aload_n 1, 1) := by decide +kernel
theorem dL_law_1559 : decode cL_law 1559 = .ok (.bipush 9, 2) := by decide +kernel
theorem dL_law_1561 : decode cL_law 1561 = .ok (.invokevirtual 34, 3) := by decide +kernel
theorem dL_law_1564 : decode cL_law 1564 = .ok (.ifCond .ne 16, 3) := by decide +kernel
theorem dL_law_1567 : decode cL_law 1567 = .ok (.aload_n 1, 1) := by decide +kernel
theorem dL_law_1568 : decode cL_law 1568 = .ok (.invokestatic 119, 3) := by decide +kernel
theorem dL_law_1571 : decode cL_law 1571 = .ok (.iload 4, 2) := by decide +kernel
theorem dL_law_1573 : decode cL_law 1573 = .ok (.if_icmp .ne 7, 3) := by decide +kernel
theorem dL_law_1576 : decode cL_law 1576 = .ok (.iconst 1, 1) := by decide +kernel
theorem dL_law_1577 : decode cL_law 1577 = .ok (.goto 4, 3) := by decide +kernel
theorem dL_law_1580 : decode cL_law 1580 = .ok (.iconst 0, 1) := by decide +kernel
theorem dL_law_1581 : decode cL_law 1581 = .ok (.ireturn, 1) := by decide +kernel
theorem dL_isLine_0 : decode cL_isLine 0 = .ok (.iload_n 1, 1) := by decide +kernel
theorem dL_isLine_1 : decode cL_isLine 1 = .ok (.aload_n 2, 1) := by decide +kernel
theorem dL_isLine_2 : decode cL_isLine 2 = .ok (.invokevirtual 7, 3) := by decide +kernel
theorem dL_isLine_5 : decode cL_isLine 5 = .ok (.if_icmp .eq 5, 3) := by decide +kernel
theorem dL_isLine_8 : decode cL_isLine 8 = .ok (.iconst 0, 1) := by decide +kernel
theorem dL_isLine_9 : decode cL_isLine 9 = .ok (.ireturn, 1) := by decide +kernel
theorem dL_isLine_10 : decode cL_isLine 10 = .ok (.iconst 0, 1) := by decide +kernel
theorem dL_isLine_11 : decode cL_isLine 11 = .ok (.istore_n 3, 1) := by decide +kernel
theorem dL_isLine_12 : decode cL_isLine 12 = .ok (.iload_n 3, 1) := by decide +kernel
theorem dL_isLine_13 : decode cL_isLine 13 = .ok (.iload_n 1, 1) := by decide +kernel
theorem dL_isLine_14 : decode cL_isLine 14 = .ok (.if_icmp .ge 24, 3) := by decide +kernel
theorem dL_isLine_17 : decode cL_isLine 17 = .ok (.aload_n 0, 1) := by decide +kernel
theorem dL_isLine_18 : decode cL_isLine 18 = .ok (.iload_n 3, 1) := by decide +kernel
theorem dL_isLine_19 : decode cL_isLine 19 = .ok (.invokevirtual 267, 3) := by decide +kernel
theorem dL_isLine_22 : decode cL_isLine 22 = .ok (.aload_n 2, 1) := by decide +kernel
theorem dL_isLine_23 : decode cL_isLine 23 = .ok (.iload_n 3, 1) := by decide +kernel
theorem dL_isLine_24 : decode cL_isLine 24 = .ok (.invokevirtual 13, 3) := by decide +kernel
theorem dL_isLine_27 : decode cL_isLine 27 = .ok (.if_icmp .eq 5, 3) := by decide +kernel
theorem dL_isLine_30 : decode cL_isLine 30 = .ok (.iconst 0, 1) := by decide +kernel
theorem dL_isLine_31 : decode cL_isLine 31 = .ok (.ireturn, 1) := by decide +kernel
theorem dL_isLine_32 : decode cL_isLine 32 = .ok (.iinc 3 1, 3) := by decide +kernel
theorem dL_isLine_35 : decode cL_isLine 35 = .ok (.goto (-23), 3) := by decide +kernel
theorem dL_isLine_38 : decode cL_isLine 38 = .ok (.iconst 1, 1) := by decide +kernel
theorem dL_isLine_39 : decode cL_isLine 39 = .ok (.ireturn, 1) := by decide +kernel
theorem dL_runs_0 : decode cL_runs 0 = .ok (.aload_n 0, 1) := by decide +kernel
theorem dL_runs_1 : decode cL_runs 1 = .ok (.invokevirtual 152, 3) := by decide +kernel
theorem dL_runs_4 : decode cL_runs 4 = .ok (.ireturn, 1) := by decide +kernel
theorem dL_runs_5 : decode cL_runs 5 = .ok (.astore_n 1, 1) := by decide +kernel
theorem dL_runs_6 : decode cL_runs 6 = .ok (.iconst (-1), 1) := by decide +kernel
theorem dL_runs_7 : decode cL_runs 7 = .ok (.ireturn, 1) := by decide +kernel
theorem dL_runs_8 : decode cL_runs 8 = .ok (.astore_n 1, 1) := by decide +kernel
theorem dL_runs_9 : decode cL_runs 9 = .ok (.bipush (-2), 2) := by decide +kernel
theorem dL_runs_11 : decode cL_runs 11 = .ok (.ireturn, 1) := by decide +kernel
theorem dL_faults_0 : decode cL_faults 0 = .ok (.aload_n 0, 1) := by decide +kernel
theorem dL_faults_1 : decode cL_faults 1 = .ok (.aload_n 1, 1) := by decide +kernel
theorem dL_faults_2 : decode cL_faults 2 = .ok (.invokestatic 148, 3) := by decide +kernel
theorem dL_faults_5 : decode cL_faults 5 = .ok (.aload_n 0, 1) := by decide +kernel
theorem dL_faults_6 : decode cL_faults 6 = .ok (.invokestatic 161, 3) := by decide +kernel
theorem dL_faults_9 : decode cL_faults 9 = .ok (.iconst (-1), 1) := by decide +kernel
theorem dL_faults_10 : decode cL_faults 10 = .ok (.if_icmp .ne 15, 3) := by decide +kernel
theorem dL_faults_13 : decode cL_faults 13 = .ok (.aload_n 0, 1) := by decide +kernel
theorem dL_faults_14 : decode cL_faults 14 = .ok (.invokevirtual 155, 3) := by decide +kernel
theorem dL_faults_17 : decode cL_faults 17 = .ok (.iload_n 2, 1) := by decide +kernel
theorem dL_faults_18 : decode cL_faults 18 = .ok (.if_icmp .ne 7, 3) := by decide +kernel
theorem dL_faults_21 : decode cL_faults 21 = .ok (.iconst 1, 1) := by decide +kernel
theorem dL_faults_22 : decode cL_faults 22 = .ok (.goto 4, 3) := by decide +kernel
theorem dL_faults_25 : decode cL_faults 25 = .ok (.iconst 0, 1) := by decide +kernel
theorem dL_faults_26 : decode cL_faults 26 = .ok (.ireturn, 1) := by decide +kernel
