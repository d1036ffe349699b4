/-! The law's instructions (made by program) -/
theorem dd_Lw_law_326 : decode bb_Lw_law 326 = .ok (.iconst 1, 1) := by decide +kernel
theorem dd_Lw_law_327 : decode bb_Lw_law 327 = .ok (.iadd, 1) := by decide +kernel
theorem dd_Lw_law_328 : decode bb_Lw_law 328 = .ok (.iaload, 1) := by decide +kernel
theorem dd_Lw_law_329 : decode bb_Lw_law 329 = .ok (.invokevirtual 53, 3) := by decide +kernel
theorem dd_Lw_law_332 : decode bb_Lw_law 332 = .ok (.if_icmp .eq 414, 3) := by decide +kernel
theorem dd_Lw_law_335 : decode bb_Lw_law 335 = .ok (.iconst 0, 1) := by decide +kernel
theorem dd_Lw_law_336 : decode bb_Lw_law 336 = .ok (.ireturn, 1) := by decide +kernel
theorem dd_Lw_law_337 : decode bb_Lw_law 337 = .ok (.aload_n 1, 1) := by decide +kernel
theorem dd_Lw_law_338 : decode bb_Lw_law 338 = .ok (.aload_n 0, 1) := by decide +kernel
theorem dd_Lw_law_339 : decode bb_Lw_law 339 = .ok (.iload_n 3, 1) := by decide +kernel
theorem dd_Lw_law_340 : decode bb_Lw_law 340 = .ok (.iconst 1, 1) := by decide +kernel
theorem dd_Lw_law_341 : decode bb_Lw_law 341 = .ok (.iadd, 1) := by decide +kernel
theorem dd_Lw_law_342 : decode bb_Lw_law 342 = .ok (.iaload, 1) := by decide +kernel
theorem dd_Lw_law_343 : decode bb_Lw_law 343 = .ok (.invokevirtual 54, 3) := by decide +kernel
theorem dd_Lw_law_346 : decode bb_Lw_law 346 = .ok (.aload_n 2, 1) := by decide +kernel
theorem dd_Lw_law_347 : decode bb_Lw_law 347 = .ok (.aload_n 0, 1) := by decide +kernel
theorem dd_Lw_law_348 : decode bb_Lw_law 348 = .ok (.iload_n 3, 1) := by decide +kernel
theorem dd_Lw_law_349 : decode bb_Lw_law 349 = .ok (.iconst 1, 1) := by decide +kernel
theorem dd_Lw_law_350 : decode bb_Lw_law 350 = .ok (.iadd, 1) := by decide +kernel
theorem dd_Lw_law_351 : decode bb_Lw_law 351 = .ok (.iaload, 1) := by decide +kernel
theorem dd_Lw_law_352 : decode bb_Lw_law 352 = .ok (.invokevirtual 57, 3) := by decide +kernel
theorem dd_Lw_law_355 : decode bb_Lw_law 355 = .ok (.if_icmp .eq 391, 3) := by decide +kernel
theorem dd_Lw_law_358 : decode bb_Lw_law 358 = .ok (.iconst 0, 1) := by decide +kernel
theorem dd_Lw_law_359 : decode bb_Lw_law 359 = .ok (.ireturn, 1) := by decide +kernel
theorem dd_Lw_law_360 : decode bb_Lw_law 360 = .ok (.aload_n 1, 1) := by decide +kernel
theorem dd_Lw_law_361 : decode bb_Lw_law 361 = .ok (.aload_n 0, 1) := by decide +kernel
theorem dd_Lw_law_362 : decode bb_Lw_law 362 = .ok (.iload_n 3, 1) := by decide +kernel
theorem dd_Lw_law_363 : decode bb_Lw_law 363 = .ok (.iconst 1, 1) := by decide +kernel
theorem dd_Lw_law_364 : decode bb_Lw_law 364 = .ok (.iadd, 1) := by decide +kernel
theorem dd_Lw_law_365 : decode bb_Lw_law 365 = .ok (.iaload, 1) := by decide +kernel
theorem dd_Lw_law_366 : decode bb_Lw_law 366 = .ok (.invokevirtual 58, 3) := by decide +kernel
theorem dd_Lw_law_369 : decode bb_Lw_law 369 = .ok (.aload_n 2, 1) := by decide +kernel
theorem dd_Lw_law_370 : decode bb_Lw_law 370 = .ok (.aload_n 0, 1) := by decide +kernel
theorem dd_Lw_law_371 : decode bb_Lw_law 371 = .ok (.iload_n 3, 1) := by decide +kernel
theorem dd_Lw_law_372 : decode bb_Lw_law 372 = .ok (.iconst 1, 1) := by decide +kernel
theorem dd_Lw_law_373 : decode bb_Lw_law 373 = .ok (.iadd, 1) := by decide +kernel
theorem dd_Lw_law_374 : decode bb_Lw_law 374 = .ok (.iaload, 1) := by decide +kernel
theorem dd_Lw_law_375 : decode bb_Lw_law 375 = .ok (.invokevirtual 61, 3) := by decide +kernel
theorem dd_Lw_law_378 : decode bb_Lw_law 378 = .ok (.if_icmp .eq 368, 3) := by decide +kernel
theorem dd_Lw_law_381 : decode bb_Lw_law 381 = .ok (.iconst 0, 1) := by decide +kernel
theorem dd_Lw_law_382 : decode bb_Lw_law 382 = .ok (.ireturn, 1) := by decide +kernel
theorem dd_Lw_law_383 : decode bb_Lw_law 383 = .ok (.aload_n 1, 1) := by decide +kernel
theorem dd_Lw_law_384 : decode bb_Lw_law 384 = .ok (.aload_n 0, 1) := by decide +kernel
theorem dd_Lw_law_385 : decode bb_Lw_law 385 = .ok (.iload_n 3, 1) := by decide +kernel
theorem dd_Lw_law_386 : decode bb_Lw_law 386 = .ok (.iconst 1, 1) := by decide +kernel
theorem dd_Lw_law_387 : decode bb_Lw_law 387 = .ok (.iadd, 1) := by decide +kernel
theorem dd_Lw_law_388 : decode bb_Lw_law 388 = .ok (.iaload, 1) := by decide +kernel
theorem dd_Lw_law_389 : decode bb_Lw_law 389 = .ok (.aload_n 0, 1) := by decide +kernel
theorem dd_Lw_law_390 : decode bb_Lw_law 390 = .ok (.iload_n 3, 1) := by decide +kernel
theorem dd_Lw_law_391 : decode bb_Lw_law 391 = .ok (.iconst 2, 1) := by decide +kernel
theorem dd_Lw_law_392 : decode bb_Lw_law 392 = .ok (.iadd, 1) := by decide +kernel
theorem dd_Lw_law_393 : decode bb_Lw_law 393 = .ok (.iaload, 1) := by decide +kernel
theorem dd_Lw_law_394 : decode bb_Lw_law 394 = .ok (.invokevirtual 62, 3) := by decide +kernel
theorem dd_Lw_law_397 : decode bb_Lw_law 397 = .ok (.aload_n 2, 1) := by decide +kernel
theorem dd_Lw_law_398 : decode bb_Lw_law 398 = .ok (.aload_n 0, 1) := by decide +kernel
theorem dd_Lw_law_399 : decode bb_Lw_law 399 = .ok (.iload_n 3, 1) := by decide +kernel
theorem dd_Lw_law_400 : decode bb_Lw_law 400 = .ok (.iconst 1, 1) := by decide +kernel
theorem dd_Lw_law_401 : decode bb_Lw_law 401 = .ok (.iadd, 1) := by decide +kernel
theorem dd_Lw_law_402 : decode bb_Lw_law 402 = .ok (.iaload, 1) := by decide +kernel
theorem dd_Lw_law_403 : decode bb_Lw_law 403 = .ok (.aload_n 0, 1) := by decide +kernel
theorem dd_Lw_law_404 : decode bb_Lw_law 404 = .ok (.iload_n 3, 1) := by decide +kernel
theorem dd_Lw_law_405 : decode bb_Lw_law 405 = .ok (.iconst 2, 1) := by decide +kernel
theorem dd_Lw_law_406 : decode bb_Lw_law 406 = .ok (.iadd, 1) := by decide +kernel
theorem dd_Lw_law_407 : decode bb_Lw_law 407 = .ok (.iaload, 1) := by decide +kernel
theorem dd_Lw_law_408 : decode bb_Lw_law 408 = .ok (.invokevirtual 65, 3) := by decide +kernel
theorem dd_Lw_law_411 : decode bb_Lw_law 411 = .ok (.if_icmp .eq 335, 3) := by decide +kernel
theorem dd_Lw_law_414 : decode bb_Lw_law 414 = .ok (.iconst 0, 1) := by decide +kernel
theorem dd_Lw_law_415 : decode bb_Lw_law 415 = .ok (.ireturn, 1) := by decide +kernel
theorem dd_Lw_law_416 : decode bb_Lw_law 416 = .ok (.aload_n 1, 1) := by decide +kernel
theorem dd_Lw_law_417 : decode bb_Lw_law 417 = .ok (.aload_n 0, 1) := by decide +kernel
theorem dd_Lw_law_418 : decode bb_Lw_law 418 = .ok (.iload_n 3, 1) := by decide +kernel
theorem dd_Lw_law_419 : decode bb_Lw_law 419 = .ok (.iconst 1, 1) := by decide +kernel
theorem dd_Lw_law_420 : decode bb_Lw_law 420 = .ok (.iadd, 1) := by decide +kernel
theorem dd_Lw_law_421 : decode bb_Lw_law 421 = .ok (.iaload, 1) := by decide +kernel
theorem dd_Lw_law_422 : decode bb_Lw_law 422 = .ok (.aload_n 0, 1) := by decide +kernel
theorem dd_Lw_law_423 : decode bb_Lw_law 423 = .ok (.iload_n 3, 1) := by decide +kernel
theorem dd_Lw_law_424 : decode bb_Lw_law 424 = .ok (.iconst 2, 1) := by decide +kernel
theorem dd_Lw_law_425 : decode bb_Lw_law 425 = .ok (.iadd, 1) := by decide +kernel
theorem dd_Lw_law_426 : decode bb_Lw_law 426 = .ok (.iaload, 1) := by decide +kernel
theorem dd_Lw_law_427 : decode bb_Lw_law 427 = .ok (.aload_n 0, 1) := by decide +kernel
theorem dd_Lw_law_428 : decode bb_Lw_law 428 = .ok (.iload_n 3, 1) := by decide +kernel
theorem dd_Lw_law_429 : decode bb_Lw_law 429 = .ok (.iconst 3, 1) := by decide +kernel
theorem dd_Lw_law_430 : decode bb_Lw_law 430 = .ok (.iadd, 1) := by decide +kernel
theorem dd_Lw_law_431 : decode bb_Lw_law 431 = .ok (.iaload, 1) := by decide +kernel
theorem dd_Lw_law_432 : decode bb_Lw_law 432 = .ok (.invokevirtual 66, 3) := by decide +kernel
theorem dd_Lw_law_435 : decode bb_Lw_law 435 = .ok (.aload_n 2, 1) := by decide +kernel
theorem dd_Lw_law_436 : decode bb_Lw_law 436 = .ok (.aload_n 0, 1) := by decide +kernel
theorem dd_Lw_law_437 : decode bb_Lw_law 437 = .ok (.iload_n 3, 1) := by decide +kernel
theorem dd_Lw_law_438 : decode bb_Lw_law 438 = .ok (.iconst 1, 1) := by decide +kernel
theorem dd_Lw_law_439 : decode bb_Lw_law 439 = .ok (.iadd, 1) := by decide +kernel
theorem dd_Lw_law_440 : decode bb_Lw_law 440 = .ok (.iaload, 1) := by decide +kernel
theorem dd_Lw_law_441 : decode bb_Lw_law 441 = .ok (.aload_n 0, 1) := by decide +kernel
theorem dd_Lw_law_442 : decode bb_Lw_law 442 = .ok (.iload_n 3, 1) := by decide +kernel
theorem dd_Lw_law_443 : decode bb_Lw_law 443 = .ok (.iconst 2, 1) := by decide +kernel
theorem dd_Lw_law_444 : decode bb_Lw_law 444 = .ok (.iadd, 1) := by decide +kernel
theorem dd_Lw_law_445 : decode bb_Lw_law 445 = .ok (.iaload, 1) := by decide +kernel
theorem dd_Lw_law_446 : decode bb_Lw_law 446 = .ok (.aload_n 0, 1) := by decide +kernel
theorem dd_Lw_law_447 : decode bb_Lw_law 447 = .ok (.iload_n 3, 1) := by decide +kernel
theorem dd_Lw_law_448 : decode bb_Lw_law 448 = .ok (.iconst 3, 1) := by decide +kernel
theorem dd_Lw_law_449 : decode bb_Lw_law 449 = .ok (.iadd, 1) := by decide +kernel
theorem dd_Lw_law_450 : decode bb_Lw_law 450 = .ok (.iaload, 1) := by decide +kernel
theorem dd_Lw_law_451 : decode bb_Lw_law 451 = .ok (.invokevirtual 70, 3) := by decide +kernel
theorem dd_Lw_law_454 : decode bb_Lw_law 454 = .ok (.if_icmp .eq 292, 3) := by decide +kernel
theorem dd_Lw_law_457 : decode bb_Lw_law 457 = .ok (.iconst 0, 1) := by decide +kernel
theorem dd_Lw_law_458 : decode bb_Lw_law 458 = .ok (.ireturn, 1) := by decide +kernel
theorem dd_Lw_law_459 : decode bb_Lw_law 459 = .ok (.aload_n 1, 1) := by decide +kernel
theorem dd_Lw_law_460 : decode bb_Lw_law 460 = .ok (.aload_n 0, 1) := by decide +kernel
theorem dd_Lw_law_461 : decode bb_Lw_law 461 = .ok (.iload_n 3, 1) := by decide +kernel
theorem dd_Lw_law_462 : decode bb_Lw_law 462 = .ok (.iconst 1, 1) := by decide +kernel
theorem dd_Lw_law_463 : decode bb_Lw_law 463 = .ok (.iadd, 1) := by decide +kernel
theorem dd_Lw_law_464 : decode bb_Lw_law 464 = .ok (.iaload, 1) := by decide +kernel
theorem dd_Lw_law_465 : decode bb_Lw_law 465 = .ok (.invokevirtual 71, 3) := by decide +kernel
theorem dd_Lw_law_468 : decode bb_Lw_law 468 = .ok (.aload_n 2, 1) := by decide +kernel
theorem dd_Lw_law_469 : decode bb_Lw_law 469 = .ok (.aload_n 0, 1) := by decide +kernel
theorem dd_Lw_law_470 : decode bb_Lw_law 470 = .ok (.iload_n 3, 1) := by decide +kernel
theorem dd_Lw_law_471 : decode bb_Lw_law 471 = .ok (.iconst 1, 1) := by decide +kernel
theorem dd_Lw_law_472 : decode bb_Lw_law 472 = .ok (.iadd, 1) := by decide +kernel
theorem dd_Lw_law_473 : decode bb_Lw_law 473 = .ok (.iaload, 1) := by decide +kernel
theorem dd_Lw_law_474 : decode bb_Lw_law 474 = .ok (.invokevirtual 74, 3) := by decide +kernel
theorem dd_Lw_law_477 : decode bb_Lw_law 477 = .ok (.if_icmp .eq 269, 3) := by decide +kernel
theorem dd_Lw_law_480 : decode bb_Lw_law 480 = .ok (.iconst 0, 1) := by decide +kernel
theorem dd_Lw_law_481 : decode bb_Lw_law 481 = .ok (.ireturn, 1) := by decide +kernel
theorem dd_Lw_law_482 : decode bb_Lw_law 482 = .ok (.aload_n 1, 1) := by decide +kernel
theorem dd_Lw_law_483 : decode bb_Lw_law 483 = .ok (.aload_n 0, 1) := by decide +kernel
theorem dd_Lw_law_484 : decode bb_Lw_law 484 = .ok (.iload_n 3, 1) := by decide +kernel
theorem dd_Lw_law_485 : decode bb_Lw_law 485 = .ok (.iconst 1, 1) := by decide +kernel
theorem dd_Lw_law_486 : decode bb_Lw_law 486 = .ok (.iadd, 1) := by decide +kernel
theorem dd_Lw_law_487 : decode bb_Lw_law 487 = .ok (.iaload, 1) := by decide +kernel
theorem dd_Lw_law_488 : decode bb_Lw_law 488 = .ok (.aload_n 0, 1) := by decide +kernel
theorem dd_Lw_law_489 : decode bb_Lw_law 489 = .ok (.iload_n 3, 1) := by decide +kernel
theorem dd_Lw_law_490 : decode bb_Lw_law 490 = .ok (.iconst 2, 1) := by decide +kernel
theorem dd_Lw_law_491 : decode bb_Lw_law 491 = .ok (.iadd, 1) := by decide +kernel
theorem dd_Lw_law_492 : decode bb_Lw_law 492 = .ok (.iaload, 1) := by decide +kernel
theorem dd_Lw_law_493 : decode bb_Lw_law 493 = .ok (.invokevirtual 75, 3) := by decide +kernel
theorem dd_Lw_law_496 : decode bb_Lw_law 496 = .ok (.aload_n 2, 1) := by decide +kernel
theorem dd_Lw_law_497 : decode bb_Lw_law 497 = .ok (.aload_n 0, 1) := by decide +kernel
theorem dd_Lw_law_498 : decode bb_Lw_law 498 = .ok (.iload_n 3, 1) := by decide +kernel
theorem dd_Lw_law_499 : decode bb_Lw_law 499 = .ok (.iconst 1, 1) := by decide +kernel
theorem dd_Lw_law_500 : decode bb_Lw_law 500 = .ok (.iadd, 1) := by decide +kernel
theorem dd_Lw_law_501 : decode bb_Lw_law 501 = .ok (.iaload, 1) := by decide +kernel
theorem dd_Lw_law_502 : decode bb_Lw_law 502 = .ok (.aload_n 0, 1) := by decide +kernel
theorem dd_Lw_law_503 : decode bb_Lw_law 503 = .ok (.iload_n 3, 1) := by decide +kernel
theorem dd_Lw_law_504 : decode bb_Lw_law 504 = .ok (.iconst 2, 1) := by decide +kernel
theorem dd_Lw_law_505 : decode bb_Lw_law 505 = .ok (.iadd, 1) := by decide +kernel
theorem dd_Lw_law_506 : decode bb_Lw_law 506 = .ok (.iaload, 1) := by decide +kernel
theorem dd_Lw_law_507 : decode bb_Lw_law 507 = .ok (.invokevirtual 78, 3) := by decide +kernel
theorem dd_Lw_law_510 : decode bb_Lw_law 510 = .ok (.if_icmp .eq 236, 3) := by decide +kernel
theorem dd_Lw_law_513 : decode bb_Lw_law 513 = .ok (.iconst 0, 1) := by decide +kernel
theorem dd_Lw_law_514 : decode bb_Lw_law 514 = .ok (.ireturn, 1) := by decide +kernel
theorem dd_Lw_law_515 : decode bb_Lw_law 515 = .ok (.aload_n 1, 1) := by decide +kernel
theorem dd_Lw_law_516 : decode bb_Lw_law 516 = .ok (.aload_n 0, 1) := by decide +kernel
theorem dd_Lw_law_517 : decode bb_Lw_law 517 = .ok (.iload_n 3, 1) := by decide +kernel
theorem dd_Lw_law_518 : decode bb_Lw_law 518 = .ok (.iconst 1, 1) := by decide +kernel
theorem dd_Lw_law_519 : decode bb_Lw_law 519 = .ok (.iadd, 1) := by decide +kernel
theorem dd_Lw_law_520 : decode bb_Lw_law 520 = .ok (.iaload, 1) := by decide +kernel
theorem dd_Lw_law_521 : decode bb_Lw_law 521 = .ok (.invokevirtual 79, 3) := by decide +kernel
theorem dd_Lw_law_524 : decode bb_Lw_law 524 = .ok (.aload_n 2, 1) := by decide +kernel
theorem dd_Lw_law_525 : decode bb_Lw_law 525 = .ok (.aload_n 0, 1) := by decide +kernel
theorem dd_Lw_law_526 : decode bb_Lw_law 526 = .ok (.iload_n 3, 1) := by decide +kernel
theorem dd_Lw_law_527 : decode bb_Lw_law 527 = .ok (.iconst 1, 1) := by decide +kernel
theorem dd_Lw_law_528 : decode bb_Lw_law 528 = .ok (.iadd, 1) := by decide +kernel
theorem dd_Lw_law_529 : decode bb_Lw_law 529 = .ok (.iaload, 1) := by decide +kernel
theorem dd_Lw_law_530 : decode bb_Lw_law 530 = .ok (.invokevirtual 82, 3) := by decide +kernel
theorem dd_Lw_law_533 : decode bb_Lw_law 533 = .ok (.if_icmp .eq 213, 3) := by decide +kernel
theorem dd_Lw_law_536 : decode bb_Lw_law 536 = .ok (.iconst 0, 1) := by decide +kernel
theorem dd_Lw_law_537 : decode bb_Lw_law 537 = .ok (.ireturn, 1) := by decide +kernel
theorem dd_Lw_law_538 : decode bb_Lw_law 538 = .ok (.aload_n 1, 1) := by decide +kernel
theorem dd_Lw_law_539 : decode bb_Lw_law 539 = .ok (.aload_n 0, 1) := by decide +kernel
theorem dd_Lw_law_540 : decode bb_Lw_law 540 = .ok (.iload_n 3, 1) := by decide +kernel
theorem dd_Lw_law_541 : decode bb_Lw_law 541 = .ok (.iconst 1, 1) := by decide +kernel
theorem dd_Lw_law_542 : decode bb_Lw_law 542 = .ok (.iadd, 1) := by decide +kernel
theorem dd_Lw_law_543 : decode bb_Lw_law 543 = .ok (.iaload, 1) := by decide +kernel
theorem dd_Lw_law_544 : decode bb_Lw_law 544 = .ok (.aload_n 0, 1) := by decide +kernel
theorem dd_Lw_law_545 : decode bb_Lw_law 545 = .ok (.iload_n 3, 1) := by decide +kernel
theorem dd_Lw_law_546 : decode bb_Lw_law 546 = .ok (.iconst 2, 1) := by decide +kernel
theorem dd_Lw_law_547 : decode bb_Lw_law 547 = .ok (.iadd, 1) := by decide +kernel
theorem dd_Lw_law_548 : decode bb_Lw_law 548 = .ok (.iaload, 1) := by decide +kernel
theorem dd_Lw_law_549 : decode bb_Lw_law 549 = .ok (.invokevirtual 83, 3) := by decide +kernel
theorem dd_Lw_law_552 : decode bb_Lw_law 552 = .ok (.aload_n 2, 1) := by decide +kernel
theorem dd_Lw_law_553 : decode bb_Lw_law 553 = .ok (.aload_n 0, 1) := by decide +kernel
