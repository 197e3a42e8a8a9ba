theorem dX10_init_343 : decode cX10_init 343 = .ok (.iastore, 1) := by decide +kernel
theorem dX10_init_344 : decode cX10_init 344 = .ok (.dup, 1) := by decide +kernel
theorem dX10_init_345 : decode cX10_init 345 = .ok (.bipush 49, 2) := by decide +kernel
theorem dX10_init_347 : decode cX10_init 347 = .ok (.sipush 8328, 3) := by decide +kernel
theorem dX10_init_350 : decode cX10_init 350 = .ok (.iastore, 1) := by decide +kernel
theorem dX10_init_351 : decode cX10_init 351 = .ok (.dup, 1) := by decide +kernel
theorem dX10_init_352 : decode cX10_init 352 = .ok (.bipush 50, 2) := by decide +kernel
theorem dX10_init_354 : decode cX10_init 354 = .ok (.sipush 9352, 3) := by decide +kernel
theorem dX10_init_357 : decode cX10_init 357 = .ok (.iastore, 1) := by decide +kernel
theorem dX10_init_358 : decode cX10_init 358 = .ok (.dup, 1) := by decide +kernel
theorem dX10_init_359 : decode cX10_init 359 = .ok (.bipush 51, 2) := by decide +kernel
theorem dX10_init_361 : decode cX10_init 361 = .ok (.sipush 8464, 3) := by decide +kernel
theorem dX10_init_364 : decode cX10_init 364 = .ok (.iastore, 1) := by decide +kernel
theorem dX10_init_365 : decode cX10_init 365 = .ok (.dup, 1) := by decide +kernel
theorem dX10_init_366 : decode cX10_init 366 = .ok (.bipush 52, 2) := by decide +kernel
theorem dX10_init_368 : decode cX10_init 368 = .ok (.sipush 4232, 3) := by decide +kernel
theorem dX10_init_371 : decode cX10_init 371 = .ok (.iastore, 1) := by decide +kernel
theorem dX10_init_372 : decode cX10_init 372 = .ok (.dup, 1) := by decide +kernel
theorem dX10_init_373 : decode cX10_init 373 = .ok (.bipush 53, 2) := by decide +kernel
theorem dX10_init_375 : decode cX10_init 375 = .ok (.sipush 136, 3) := by decide +kernel
theorem dX10_init_378 : decode cX10_init 378 = .ok (.iastore, 1) := by decide +kernel
theorem dX10_init_379 : decode cX10_init 379 = .ok (.dup, 1) := by decide +kernel
theorem dX10_init_380 : decode cX10_init 380 = .ok (.bipush 54, 2) := by decide +kernel
theorem dX10_init_382 : decode cX10_init 382 = .ok (.sipush 1160, 3) := by decide +kernel
theorem dX10_init_385 : decode cX10_init 385 = .ok (.iastore, 1) := by decide +kernel
theorem dX10_init_386 : decode cX10_init 386 = .ok (.dup, 1) := by decide +kernel
theorem dX10_init_387 : decode cX10_init 387 = .ok (.bipush 55, 2) := by decide +kernel
theorem dX10_init_389 : decode cX10_init 389 = .ok (.sipush 2184, 3) := by decide +kernel
theorem dX10_init_392 : decode cX10_init 392 = .ok (.iastore, 1) := by decide +kernel
theorem dX10_init_393 : decode cX10_init 393 = .ok (.dup, 1) := by decide +kernel
theorem dX10_init_394 : decode cX10_init 394 = .ok (.bipush 56, 2) := by decide +kernel
theorem dX10_init_396 : decode cX10_init 396 = .ok (.sipush 4616, 3) := by decide +kernel
theorem dX10_init_399 : decode cX10_init 399 = .ok (.iastore, 1) := by decide +kernel
theorem dX10_init_400 : decode cX10_init 400 = .ok (.dup, 1) := by decide +kernel
theorem dX10_init_401 : decode cX10_init 401 = .ok (.bipush 57, 2) := by decide +kernel
theorem dX10_init_403 : decode cX10_init 403 = .ok (.sipush 8200, 3) := by decide +kernel
theorem dX10_init_406 : decode cX10_init 406 = .ok (.iastore, 1) := by decide +kernel
theorem dX10_init_407 : decode cX10_init 407 = .ok (.dup, 1) := by decide +kernel
theorem dX10_init_408 : decode cX10_init 408 = .ok (.bipush 58, 2) := by decide +kernel
theorem dX10_init_410 : decode cX10_init 410 = .ok (.sipush 9224, 3) := by decide +kernel
theorem dX10_init_413 : decode cX10_init 413 = .ok (.iastore, 1) := by decide +kernel
theorem dX10_init_414 : decode cX10_init 414 = .ok (.dup, 1) := by decide +kernel
theorem dX10_init_415 : decode cX10_init 415 = .ok (.bipush 59, 2) := by decide +kernel
theorem dX10_init_417 : decode cX10_init 417 = .ok (.sipush 8712, 3) := by decide +kernel
theorem dX10_init_420 : decode cX10_init 420 = .ok (.iastore, 1) := by decide +kernel
theorem dX10_init_421 : decode cX10_init 421 = .ok (.dup, 1) := by decide +kernel
theorem dX10_init_422 : decode cX10_init 422 = .ok (.bipush 60, 2) := by decide +kernel
theorem dX10_init_424 : decode cX10_init 424 = .ok (.sipush 4104, 3) := by decide +kernel
theorem dX10_init_427 : decode cX10_init 427 = .ok (.iastore, 1) := by decide +kernel
theorem dX10_init_428 : decode cX10_init 428 = .ok (.dup, 1) := by decide +kernel
theorem dX10_init_429 : decode cX10_init 429 = .ok (.bipush 61, 2) := by decide +kernel
theorem dX10_init_431 : decode cX10_init 431 = .ok (.sipush 520, 3) := by decide +kernel
theorem dX10_init_434 : decode cX10_init 434 = .ok (.iastore, 1) := by decide +kernel
theorem dX10_init_435 : decode cX10_init 435 = .ok (.dup, 1) := by decide +kernel
theorem dX10_init_436 : decode cX10_init 436 = .ok (.bipush 62, 2) := by decide +kernel
theorem dX10_init_438 : decode cX10_init 438 = .ok (.sipush 1032, 3) := by decide +kernel
theorem dX10_init_441 : decode cX10_init 441 = .ok (.iastore, 1) := by decide +kernel
theorem dX10_init_442 : decode cX10_init 442 = .ok (.dup, 1) := by decide +kernel
theorem dX10_init_443 : decode cX10_init 443 = .ok (.bipush 63, 2) := by decide +kernel
theorem dX10_init_445 : decode cX10_init 445 = .ok (.sipush 2056, 3) := by decide +kernel
theorem dX10_init_448 : decode cX10_init 448 = .ok (.iastore, 1) := by decide +kernel
theorem dX10_init_449 : decode cX10_init 449 = .ok (.dup, 1) := by decide +kernel
theorem dX10_init_450 : decode cX10_init 450 = .ok (.bipush 64, 2) := by decide +kernel
theorem dX10_init_452 : decode cX10_init 452 = .ok (.sipush 4644, 3) := by decide +kernel
theorem dX10_init_455 : decode cX10_init 455 = .ok (.iastore, 1) := by decide +kernel
theorem dX10_init_456 : decode cX10_init 456 = .ok (.dup, 1) := by decide +kernel
theorem dX10_init_457 : decode cX10_init 457 = .ok (.bipush 65, 2) := by decide +kernel
theorem dX10_init_459 : decode cX10_init 459 = .ok (.sipush 8484, 3) := by decide +kernel
theorem dX10_init_462 : decode cX10_init 462 = .ok (.iastore, 1) := by decide +kernel
theorem dX10_init_463 : decode cX10_init 463 = .ok (.dup, 1) := by decide +kernel
theorem dX10_init_464 : decode cX10_init 464 = .ok (.bipush 66, 2) := by decide +kernel
theorem dX10_init_466 : decode cX10_init 466 = .ok (.sipush 9252, 3) := by decide +kernel
theorem dX10_init_469 : decode cX10_init 469 = .ok (.iastore, 1) := by decide +kernel
theorem dX10_init_470 : decode cX10_init 470 = .ok (.dup, 1) := by decide +kernel
theorem dX10_init_471 : decode cX10_init 471 = .ok (.bipush 67, 2) := by decide +kernel
theorem dX10_init_473 : decode cX10_init 473 = .ok (.sipush 8740, 3) := by decide +kernel
theorem dX10_init_476 : decode cX10_init 476 = .ok (.iastore, 1) := by decide +kernel
theorem dX10_init_477 : decode cX10_init 477 = .ok (.dup, 1) := by decide +kernel
theorem dX10_init_478 : decode cX10_init 478 = .ok (.bipush 68, 2) := by decide +kernel
theorem dX10_init_480 : decode cX10_init 480 = .ok (.sipush 4388, 3) := by decide +kernel
theorem dX10_init_483 : decode cX10_init 483 = .ok (.iastore, 1) := by decide +kernel
theorem dX10_init_484 : decode cX10_init 484 = .ok (.dup, 1) := by decide +kernel
theorem dX10_init_485 : decode cX10_init 485 = .ok (.bipush 69, 2) := by decide +kernel
theorem dX10_init_487 : decode cX10_init 487 = .ok (.bipush 36, 2) := by decide +kernel
theorem dX10_init_489 : decode cX10_init 489 = .ok (.iastore, 1) := by decide +kernel
theorem dX10_init_490 : decode cX10_init 490 = .ok (.dup, 1) := by decide +kernel
theorem dX10_init_491 : decode cX10_init 491 = .ok (.bipush 70, 2) := by decide +kernel
theorem dX10_init_493 : decode cX10_init 493 = .ok (.sipush 1060, 3) := by decide +kernel
theorem dX10_init_496 : decode cX10_init 496 = .ok (.iastore, 1) := by decide +kernel
theorem dX10_init_497 : decode cX10_init 497 = .ok (.dup, 1) := by decide +kernel
theorem dX10_init_498 : decode cX10_init 498 = .ok (.bipush 71, 2) := by decide +kernel
theorem dX10_init_500 : decode cX10_init 500 = .ok (.sipush 2340, 3) := by decide +kernel
theorem dX10_init_503 : decode cX10_init 503 = .ok (.iastore, 1) := by decide +kernel
theorem dX10_init_504 : decode cX10_init 504 = .ok (.dup, 1) := by decide +kernel
theorem dX10_init_505 : decode cX10_init 505 = .ok (.bipush 72, 2) := by decide +kernel
theorem dX10_init_507 : decode cX10_init 507 = .ok (.sipush 4676, 3) := by decide +kernel
theorem dX10_init_510 : decode cX10_init 510 = .ok (.iastore, 1) := by decide +kernel
theorem dX10_init_511 : decode cX10_init 511 = .ok (.dup, 1) := by decide +kernel
theorem dX10_init_512 : decode cX10_init 512 = .ok (.bipush 73, 2) := by decide +kernel
theorem dX10_init_514 : decode cX10_init 514 = .ok (.sipush 8260, 3) := by decide +kernel
