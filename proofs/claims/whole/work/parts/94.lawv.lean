/-! THE LAW: its cases -/
/-! 355: PinBarrelLaw.law([I)Z -/
theorem b355 : mB 355 = cL_law := rfl
theorem r355 : mR 355 = (some .boolean) := rfl
theorem d355_28 : decode cL_law 28 = .ok (.iload 5, 2) := by decide +kernel
theorem d355_30 : decode cL_law 30 = .ok (.aload_n 0, 1) := by decide +kernel
theorem d355_31 : decode cL_law 31 = .ok (.arraylength, 1) := by decide +kernel
theorem d355_32 : decode cL_law 32 = .ok (.iconst 5, 1) := by decide +kernel
theorem d355_33 : decode cL_law 33 = .ok (.isub, 1) := by decide +kernel
theorem d355_34 : decode cL_law 34 = .ok (.if_icmp .gt 3538, 3) := by decide +kernel
theorem d355_37 : decode cL_law 37 = .ok (.aload_n 0, 1) := by decide +kernel
theorem d355_38 : decode cL_law 38 = .ok (.iload 5, 2) := by decide +kernel
theorem d355_40 : decode cL_law 40 = .ok (.iaload, 1) := by decide +kernel
theorem d355_41 : decode cL_law 41 = .ok (.bipush 63, 2) := by decide +kernel
theorem d355_43 : decode cL_law 43 = .ok (.iand, 1) := by decide +kernel
theorem d355_44 : decode cL_law 44 = .ok (.tableswitch 3522 0 57 #[248, 305, 318, 331, 344, 400, 468, 536, 623, 703, 771, 827, 883, 963, 1031, 1087, 1143, 1206, 1262, 1318, 1374, 1430, 1486, 1542, 1598, 1654, 1722, 1778, 1858, 1914, 1982, 2038, 2094, 2107, 2120, 2133, 2213, 2269, 2337, 2405, 2473, 2588, 2644, 2700, 2768, 2836, 2892, 2948, 3004, 3060, 3116, 3193, 3236, 3304, 3372, 3397, 3410, 3466], 248) := by decide +kernel
theorem d355_292 : decode cL_law 292 = .ok (.aload_n 1, 1) := by decide +kernel
theorem d355_293 : decode cL_law 293 = .ok (.aload_n 0, 1) := by decide +kernel
theorem d355_294 : decode cL_law 294 = .ok (.iload 5, 2) := by decide +kernel
theorem d355_296 : decode cL_law 296 = .ok (.iconst 1, 1) := by decide +kernel
theorem d355_297 : decode cL_law 297 = .ok (.iadd, 1) := by decide +kernel
theorem d355_298 : decode cL_law 298 = .ok (.iaload, 1) := by decide +kernel
theorem d355_299 : decode cL_law 299 = .ok (.i2l, 1) := by decide +kernel
theorem d355_300 : decode cL_law 300 = .ok (.bipush 32, 2) := by decide +kernel
theorem d355_302 : decode cL_law 302 = .ok (.lshl, 1) := by decide +kernel
theorem d355_303 : decode cL_law 303 = .ok (.aload_n 0, 1) := by decide +kernel
theorem d355_304 : decode cL_law 304 = .ok (.iload 5, 2) := by decide +kernel
theorem d355_306 : decode cL_law 306 = .ok (.iconst 2, 1) := by decide +kernel
theorem d355_307 : decode cL_law 307 = .ok (.iadd, 1) := by decide +kernel
theorem d355_308 : decode cL_law 308 = .ok (.iaload, 1) := by decide +kernel
theorem d355_309 : decode cL_law 309 = .ok (.i2l, 1) := by decide +kernel
theorem d355_310 : decode cL_law 310 = .ok (.ldc2_w 168, 3) := by decide +kernel
theorem d355_313 : decode cL_law 313 = .ok (.land, 1) := by decide +kernel
theorem d355_314 : decode cL_law 314 = .ok (.lor, 1) := by decide +kernel
theorem d355_315 : decode cL_law 315 = .ok (.invokevirtual 170, 3) := by decide +kernel
theorem d355_318 : decode cL_law 318 = .ok (.aload_n 2, 1) := by decide +kernel
theorem d355_319 : decode cL_law 319 = .ok (.aload_n 0, 1) := by decide +kernel
theorem d355_320 : decode cL_law 320 = .ok (.iload 5, 2) := by decide +kernel
theorem d355_322 : decode cL_law 322 = .ok (.iconst 1, 1) := by decide +kernel
theorem d355_323 : decode cL_law 323 = .ok (.iadd, 1) := by decide +kernel
theorem d355_324 : decode cL_law 324 = .ok (.iaload, 1) := by decide +kernel
theorem d355_325 : decode cL_law 325 = .ok (.i2l, 1) := by decide +kernel
theorem d355_326 : decode cL_law 326 = .ok (.bipush 32, 2) := by decide +kernel
theorem d355_328 : decode cL_law 328 = .ok (.lshl, 1) := by decide +kernel
theorem d355_329 : decode cL_law 329 = .ok (.aload_n 0, 1) := by decide +kernel
theorem d355_330 : decode cL_law 330 = .ok (.iload 5, 2) := by decide +kernel
theorem d355_332 : decode cL_law 332 = .ok (.iconst 2, 1) := by decide +kernel
theorem d355_333 : decode cL_law 333 = .ok (.iadd, 1) := by decide +kernel
theorem d355_334 : decode cL_law 334 = .ok (.iaload, 1) := by decide +kernel
theorem d355_335 : decode cL_law 335 = .ok (.i2l, 1) := by decide +kernel
theorem d355_336 : decode cL_law 336 = .ok (.ldc2_w 168, 3) := by decide +kernel
theorem d355_339 : decode cL_law 339 = .ok (.land, 1) := by decide +kernel
theorem d355_340 : decode cL_law 340 = .ok (.lor, 1) := by decide +kernel
theorem d355_341 : decode cL_law 341 = .ok (.invokevirtual 174, 3) := by decide +kernel
theorem d355_344 : decode cL_law 344 = .ok (.if_icmp .eq 3222, 3) := by decide +kernel
theorem d355_347 : decode cL_law 347 = .ok (.iconst 0, 1) := by decide +kernel
theorem d355_348 : decode cL_law 348 = .ok (.ireturn, 1) := by decide +kernel
theorem d355_349 : decode cL_law 349 = .ok (.aload_n 1, 1) := by decide +kernel
theorem d355_350 : decode cL_law 350 = .ok (.invokevirtual 175, 3) := by decide +kernel
theorem d355_353 : decode cL_law 353 = .ok (.aload_n 2, 1) := by decide +kernel
theorem d355_354 : decode cL_law 354 = .ok (.invokevirtual 179, 3) := by decide +kernel
theorem d355_357 : decode cL_law 357 = .ok (.if_icmp .eq 3209, 3) := by decide +kernel
theorem d355_360 : decode cL_law 360 = .ok (.iconst 0, 1) := by decide +kernel
theorem d355_361 : decode cL_law 361 = .ok (.ireturn, 1) := by decide +kernel
theorem d355_362 : decode cL_law 362 = .ok (.aload_n 1, 1) := by decide +kernel
theorem d355_363 : decode cL_law 363 = .ok (.invokevirtual 180, 3) := by decide +kernel
theorem d355_366 : decode cL_law 366 = .ok (.aload_n 2, 1) := by decide +kernel
theorem d355_367 : decode cL_law 367 = .ok (.invokevirtual 183, 3) := by decide +kernel
theorem d355_370 : decode cL_law 370 = .ok (.if_icmp .eq 3196, 3) := by decide +kernel
theorem d355_373 : decode cL_law 373 = .ok (.iconst 0, 1) := by decide +kernel
theorem d355_374 : decode cL_law 374 = .ok (.ireturn, 1) := by decide +kernel
theorem d355_375 : decode cL_law 375 = .ok (.aload_n 1, 1) := by decide +kernel
theorem d355_376 : decode cL_law 376 = .ok (.invokevirtual 184, 3) := by decide +kernel
theorem d355_379 : decode cL_law 379 = .ok (.aload_n 2, 1) := by decide +kernel
theorem d355_380 : decode cL_law 380 = .ok (.invokevirtual 187, 3) := by decide +kernel
theorem d355_383 : decode cL_law 383 = .ok (.if_icmp .eq 3183, 3) := by decide +kernel
theorem d355_386 : decode cL_law 386 = .ok (.iconst 0, 1) := by decide +kernel
theorem d355_387 : decode cL_law 387 = .ok (.ireturn, 1) := by decide +kernel
theorem d355_388 : decode cL_law 388 = .ok (.aload_n 1, 1) := by decide +kernel
theorem d355_389 : decode cL_law 389 = .ok (.aload_n 0, 1) := by decide +kernel
theorem d355_390 : decode cL_law 390 = .ok (.iload 5, 2) := by decide +kernel
theorem d355_392 : decode cL_law 392 = .ok (.iconst 1, 1) := by decide +kernel
theorem d355_393 : decode cL_law 393 = .ok (.iadd, 1) := by decide +kernel
theorem d355_394 : decode cL_law 394 = .ok (.iaload, 1) := by decide +kernel
theorem d355_395 : decode cL_law 395 = .ok (.aload_n 3, 1) := by decide +kernel
theorem d355_396 : decode cL_law 396 = .ok (.invokestatic 188, 3) := by decide +kernel
theorem d355_399 : decode cL_law 399 = .ok (.istore 6, 2) := by decide +kernel
theorem d355_401 : decode cL_law 401 = .ok (.aload_n 2, 1) := by decide +kernel
theorem d355_402 : decode cL_law 402 = .ok (.aload_n 0, 1) := by decide +kernel
theorem d355_403 : decode cL_law 403 = .ok (.iload 5, 2) := by decide +kernel
theorem d355_405 : decode cL_law 405 = .ok (.iconst 1, 1) := by decide +kernel
theorem d355_406 : decode cL_law 406 = .ok (.iadd, 1) := by decide +kernel
theorem d355_407 : decode cL_law 407 = .ok (.iaload, 1) := by decide +kernel
theorem d355_408 : decode cL_law 408 = .ok (.invokevirtual 193, 3) := by decide +kernel
theorem d355_411 : decode cL_law 411 = .ok (.istore 7, 2) := by decide +kernel
theorem d355_413 : decode cL_law 413 = .ok (.aload_n 2, 1) := by decide +kernel
theorem d355_414 : decode cL_law 414 = .ok (.invokevirtual 194, 3) := by decide +kernel
theorem d355_417 : decode cL_law 417 = .ok (.iload 6, 2) := by decide +kernel
theorem d355_419 : decode cL_law 419 = .ok (.if_icmp .eq 5, 3) := by decide +kernel
theorem d355_422 : decode cL_law 422 = .ok (.iconst 0, 1) := by decide +kernel
theorem d355_423 : decode cL_law 423 = .ok (.ireturn, 1) := by decide +kernel
theorem d355_424 : decode cL_law 424 = .ok (.iload 6, 2) := by decide +kernel
theorem d355_426 : decode cL_law 426 = .ok (.ifCond .ne 15, 3) := by decide +kernel
theorem d355_429 : decode cL_law 429 = .ok (.aload_n 3, 1) := by decide +kernel
theorem d355_430 : decode cL_law 430 = .ok (.iconst 0, 1) := by decide +kernel
theorem d355_431 : decode cL_law 431 = .ok (.laload, 1) := by decide +kernel
theorem d355_432 : decode cL_law 432 = .ok (.iload 7, 2) := by decide +kernel
theorem d355_434 : decode cL_law 434 = .ok (.i2l, 1) := by decide +kernel
theorem d355_435 : decode cL_law 435 = .ok (.lcmp, 1) := by decide +kernel
theorem d355_436 : decode cL_law 436 = .ok (.ifCond .eq 5, 3) := by decide +kernel
theorem d355_439 : decode cL_law 439 = .ok (.iconst 0, 1) := by decide +kernel
theorem d355_440 : decode cL_law 440 = .ok (.ireturn, 1) := by decide +kernel
theorem d355_441 : decode cL_law 441 = .ok (.goto 3125, 3) := by decide +kernel
theorem d355_444 : decode cL_law 444 = .ok (.aload_n 1, 1) := by decide +kernel
theorem d355_445 : decode cL_law 445 = .ok (.aload_n 0, 1) := by decide +kernel
theorem d355_446 : decode cL_law 446 = .ok (.iload 5, 2) := by decide +kernel
theorem d355_448 : decode cL_law 448 = .ok (.iconst 1, 1) := by decide +kernel
theorem d355_449 : decode cL_law 449 = .ok (.iadd, 1) := by decide +kernel
theorem d355_450 : decode cL_law 450 = .ok (.iaload, 1) := by decide +kernel
theorem d355_451 : decode cL_law 451 = .ok (.aload_n 0, 1) := by decide +kernel
theorem d355_452 : decode cL_law 452 = .ok (.iload 5, 2) := by decide +kernel
theorem d355_454 : decode cL_law 454 = .ok (.iconst 2, 1) := by decide +kernel
theorem d355_455 : decode cL_law 455 = .ok (.iadd, 1) := by decide +kernel
theorem d355_456 : decode cL_law 456 = .ok (.iaload, 1) := by decide +kernel
theorem d355_457 : decode cL_law 457 = .ok (.aload_n 3, 1) := by decide +kernel
theorem d355_458 : decode cL_law 458 = .ok (.invokestatic 197, 3) := by decide +kernel
theorem d355_461 : decode cL_law 461 = .ok (.istore 6, 2) := by decide +kernel
theorem d355_463 : decode cL_law 463 = .ok (.aload_n 2, 1) := by decide +kernel
theorem d355_464 : decode cL_law 464 = .ok (.aload_n 0, 1) := by decide +kernel
theorem d355_465 : decode cL_law 465 = .ok (.iload 5, 2) := by decide +kernel
theorem d355_467 : decode cL_law 467 = .ok (.iconst 1, 1) := by decide +kernel
theorem d355_468 : decode cL_law 468 = .ok (.iadd, 1) := by decide +kernel
theorem d355_469 : decode cL_law 469 = .ok (.iaload, 1) := by decide +kernel
theorem d355_470 : decode cL_law 470 = .ok (.aload_n 0, 1) := by decide +kernel
theorem d355_471 : decode cL_law 471 = .ok (.iload 5, 2) := by decide +kernel
theorem d355_473 : decode cL_law 473 = .ok (.iconst 2, 1) := by decide +kernel
theorem d355_474 : decode cL_law 474 = .ok (.iadd, 1) := by decide +kernel
theorem d355_475 : decode cL_law 475 = .ok (.iaload, 1) := by decide +kernel
theorem d355_476 : decode cL_law 476 = .ok (.invokevirtual 200, 3) := by decide +kernel
theorem d355_479 : decode cL_law 479 = .ok (.istore 7, 2) := by decide +kernel
theorem d355_481 : decode cL_law 481 = .ok (.aload_n 2, 1) := by decide +kernel
theorem d355_482 : decode cL_law 482 = .ok (.invokevirtual 194, 3) := by decide +kernel
theorem d355_485 : decode cL_law 485 = .ok (.iload 6, 2) := by decide +kernel
theorem d355_487 : decode cL_law 487 = .ok (.if_icmp .eq 5, 3) := by decide +kernel
theorem d355_490 : decode cL_law 490 = .ok (.iconst 0, 1) := by decide +kernel
theorem d355_491 : decode cL_law 491 = .ok (.ireturn, 1) := by decide +kernel
theorem d355_492 : decode cL_law 492 = .ok (.iload 6, 2) := by decide +kernel
theorem d355_494 : decode cL_law 494 = .ok (.ifCond .ne 15, 3) := by decide +kernel
theorem d355_497 : decode cL_law 497 = .ok (.aload_n 3, 1) := by decide +kernel
theorem d355_498 : decode cL_law 498 = .ok (.iconst 0, 1) := by decide +kernel
theorem d355_499 : decode cL_law 499 = .ok (.laload, 1) := by decide +kernel
theorem d355_500 : decode cL_law 500 = .ok (.iload 7, 2) := by decide +kernel
theorem d355_502 : decode cL_law 502 = .ok (.i2l, 1) := by decide +kernel
theorem d355_503 : decode cL_law 503 = .ok (.lcmp, 1) := by decide +kernel
theorem d355_504 : decode cL_law 504 = .ok (.ifCond .eq 5, 3) := by decide +kernel
theorem d355_507 : decode cL_law 507 = .ok (.iconst 0, 1) := by decide +kernel
theorem d355_508 : decode cL_law 508 = .ok (.ireturn, 1) := by decide +kernel
theorem d355_509 : decode cL_law 509 = .ok (.goto 3057, 3) := by decide +kernel
theorem d355_512 : decode cL_law 512 = .ok (.aload_n 1, 1) := by decide +kernel
theorem d355_513 : decode cL_law 513 = .ok (.aload_n 0, 1) := by decide +kernel
theorem d355_514 : decode cL_law 514 = .ok (.iload 5, 2) := by decide +kernel
theorem d355_516 : decode cL_law 516 = .ok (.iconst 1, 1) := by decide +kernel
theorem d355_517 : decode cL_law 517 = .ok (.iadd, 1) := by decide +kernel
theorem d355_518 : decode cL_law 518 = .ok (.iaload, 1) := by decide +kernel
theorem d355_519 : decode cL_law 519 = .ok (.aload_n 0, 1) := by decide +kernel
theorem d355_520 : decode cL_law 520 = .ok (.iload 5, 2) := by decide +kernel
theorem d355_522 : decode cL_law 522 = .ok (.iconst 2, 1) := by decide +kernel
theorem d355_523 : decode cL_law 523 = .ok (.iadd, 1) := by decide +kernel
theorem d355_524 : decode cL_law 524 = .ok (.iaload, 1) := by decide +kernel
theorem d355_525 : decode cL_law 525 = .ok (.aload_n 3, 1) := by decide +kernel
theorem d355_526 : decode cL_law 526 = .ok (.invokestatic 201, 3) := by decide +kernel
theorem d355_529 : decode cL_law 529 = .ok (.istore 6, 2) := by decide +kernel
theorem d355_531 : decode cL_law 531 = .ok (.aload_n 2, 1) := by decide +kernel
theorem d355_532 : decode cL_law 532 = .ok (.aload_n 0, 1) := by decide +kernel
theorem d355_533 : decode cL_law 533 = .ok (.iload 5, 2) := by decide +kernel
theorem d355_535 : decode cL_law 535 = .ok (.iconst 1, 1) := by decide +kernel
theorem d355_536 : decode cL_law 536 = .ok (.iadd, 1) := by decide +kernel
theorem d355_537 : decode cL_law 537 = .ok (.iaload, 1) := by decide +kernel
theorem d355_538 : decode cL_law 538 = .ok (.aload_n 0, 1) := by decide +kernel
theorem d355_539 : decode cL_law 539 = .ok (.iload 5, 2) := by decide +kernel
theorem d355_541 : decode cL_law 541 = .ok (.iconst 2, 1) := by decide +kernel
theorem d355_542 : decode cL_law 542 = .ok (.iadd, 1) := by decide +kernel
theorem d355_543 : decode cL_law 543 = .ok (.iaload, 1) := by decide +kernel
theorem d355_544 : decode cL_law 544 = .ok (.invokevirtual 203, 3) := by decide +kernel
theorem d355_547 : decode cL_law 547 = .ok (.istore 7, 2) := by decide +kernel
theorem d355_549 : decode cL_law 549 = .ok (.aload_n 2, 1) := by decide +kernel
theorem d355_550 : decode cL_law 550 = .ok (.invokevirtual 194, 3) := by decide +kernel
theorem d355_553 : decode cL_law 553 = .ok (.iload 6, 2) := by decide +kernel
theorem d355_555 : decode cL_law 555 = .ok (.if_icmp .eq 5, 3) := by decide +kernel
theorem d355_558 : decode cL_law 558 = .ok (.iconst 0, 1) := by decide +kernel
theorem d355_559 : decode cL_law 559 = .ok (.ireturn, 1) := by decide +kernel
theorem d355_560 : decode cL_law 560 = .ok (.iload 6, 2) := by decide +kernel
theorem d355_562 : decode cL_law 562 = .ok (.ifCond .ne 15, 3) := by decide +kernel
theorem d355_565 : decode cL_law 565 = .ok (.aload_n 3, 1) := by decide +kernel
theorem d355_566 : decode cL_law 566 = .ok (.iconst 0, 1) := by decide +kernel
theorem d355_567 : decode cL_law 567 = .ok (.laload, 1) := by decide +kernel
theorem d355_568 : decode cL_law 568 = .ok (.iload 7, 2) := by decide +kernel
theorem d355_570 : decode cL_law 570 = .ok (.i2l, 1) := by decide +kernel
theorem d355_571 : decode cL_law 571 = .ok (.lcmp, 1) := by decide +kernel
theorem d355_572 : decode cL_law 572 = .ok (.ifCond .eq 5, 3) := by decide +kernel
theorem d355_575 : decode cL_law 575 = .ok (.iconst 0, 1) := by decide +kernel
theorem d355_576 : decode cL_law 576 = .ok (.ireturn, 1) := by decide +kernel
theorem d355_577 : decode cL_law 577 = .ok (.goto 2989, 3) := by decide +kernel
theorem d355_580 : decode cL_law 580 = .ok (.aload_n 1, 1) := by decide +kernel
theorem d355_581 : decode cL_law 581 = .ok (.aload_n 0, 1) := by decide +kernel
theorem d355_582 : decode cL_law 582 = .ok (.iload 5, 2) := by decide +kernel
theorem d355_584 : decode cL_law 584 = .ok (.iconst 1, 1) := by decide +kernel
theorem d355_585 : decode cL_law 585 = .ok (.iadd, 1) := by decide +kernel
theorem d355_586 : decode cL_law 586 = .ok (.iaload, 1) := by decide +kernel
theorem d355_587 : decode cL_law 587 = .ok (.aload_n 0, 1) := by decide +kernel
theorem d355_588 : decode cL_law 588 = .ok (.iload 5, 2) := by decide +kernel
theorem d355_590 : decode cL_law 590 = .ok (.iconst 2, 1) := by decide +kernel
theorem d355_591 : decode cL_law 591 = .ok (.iadd, 1) := by decide +kernel
theorem d355_592 : decode cL_law 592 = .ok (.iaload, 1) := by decide +kernel
theorem d355_593 : decode cL_law 593 = .ok (.aload_n 0, 1) := by decide +kernel
theorem d355_594 : decode cL_law 594 = .ok (.iload 5, 2) := by decide +kernel
theorem d355_596 : decode cL_law 596 = .ok (.iconst 3, 1) := by decide +kernel
theorem d355_597 : decode cL_law 597 = .ok (.iadd, 1) := by decide +kernel
theorem d355_598 : decode cL_law 598 = .ok (.iaload, 1) := by decide +kernel
theorem d355_599 : decode cL_law 599 = .ok (.aload_n 3, 1) := by decide +kernel
theorem d355_600 : decode cL_law 600 = .ok (.invokestatic 204, 3) := by decide +kernel
theorem d355_603 : decode cL_law 603 = .ok (.istore 6, 2) := by decide +kernel
theorem d355_605 : decode cL_law 605 = .ok (.aload_n 2, 1) := by decide +kernel
theorem d355_606 : decode cL_law 606 = .ok (.aload_n 0, 1) := by decide +kernel
theorem d355_607 : decode cL_law 607 = .ok (.iload 5, 2) := by decide +kernel
theorem d355_609 : decode cL_law 609 = .ok (.iconst 1, 1) := by decide +kernel
theorem d355_610 : decode cL_law 610 = .ok (.iadd, 1) := by decide +kernel
theorem d355_611 : decode cL_law 611 = .ok (.iaload, 1) := by decide +kernel
theorem d355_612 : decode cL_law 612 = .ok (.aload_n 0, 1) := by decide +kernel
theorem d355_613 : decode cL_law 613 = .ok (.iload 5, 2) := by decide +kernel
theorem d355_615 : decode cL_law 615 = .ok (.iconst 2, 1) := by decide +kernel
theorem d355_616 : decode cL_law 616 = .ok (.iadd, 1) := by decide +kernel
theorem d355_617 : decode cL_law 617 = .ok (.iaload, 1) := by decide +kernel
theorem d355_618 : decode cL_law 618 = .ok (.aload_n 0, 1) := by decide +kernel
theorem d355_619 : decode cL_law 619 = .ok (.iload 5, 2) := by decide +kernel
theorem d355_621 : decode cL_law 621 = .ok (.iconst 3, 1) := by decide +kernel
theorem d355_622 : decode cL_law 622 = .ok (.iadd, 1) := by decide +kernel
theorem d355_623 : decode cL_law 623 = .ok (.iaload, 1) := by decide +kernel
theorem d355_624 : decode cL_law 624 = .ok (.invokevirtual 207, 3) := by decide +kernel
theorem d355_627 : decode cL_law 627 = .ok (.istore 7, 2) := by decide +kernel
theorem d355_629 : decode cL_law 629 = .ok (.aload_n 2, 1) := by decide +kernel
theorem d355_630 : decode cL_law 630 = .ok (.invokevirtual 194, 3) := by decide +kernel
theorem d355_633 : decode cL_law 633 = .ok (.iload 6, 2) := by decide +kernel
theorem d355_635 : decode cL_law 635 = .ok (.if_icmp .eq 5, 3) := by decide +kernel
theorem d355_638 : decode cL_law 638 = .ok (.iconst 0, 1) := by decide +kernel
theorem d355_639 : decode cL_law 639 = .ok (.ireturn, 1) := by decide +kernel
theorem d355_640 : decode cL_law 640 = .ok (.iload 6, 2) := by decide +kernel
theorem d355_642 : decode cL_law 642 = .ok (.ifCond .ne 22, 3) := by decide +kernel
theorem d355_645 : decode cL_law 645 = .ok (.aload_n 3, 1) := by decide +kernel
theorem d355_646 : decode cL_law 646 = .ok (.iconst 0, 1) := by decide +kernel
theorem d355_647 : decode cL_law 647 = .ok (.laload, 1) := by decide +kernel
theorem d355_648 : decode cL_law 648 = .ok (.iload 7, 2) := by decide +kernel
theorem d355_650 : decode cL_law 650 = .ok (.ifCond .eq 7, 3) := by decide +kernel
theorem d355_653 : decode cL_law 653 = .ok (.lconst 1, 1) := by decide +kernel
theorem d355_654 : decode cL_law 654 = .ok (.goto 4, 3) := by decide +kernel
theorem d355_657 : decode cL_law 657 = .ok (.lconst 0, 1) := by decide +kernel
theorem d355_658 : decode cL_law 658 = .ok (.lcmp, 1) := by decide +kernel
theorem d355_659 : decode cL_law 659 = .ok (.ifCond .eq 5, 3) := by decide +kernel
theorem d355_662 : decode cL_law 662 = .ok (.iconst 0, 1) := by decide +kernel
theorem d355_663 : decode cL_law 663 = .ok (.ireturn, 1) := by decide +kernel
theorem d355_664 : decode cL_law 664 = .ok (.goto 2902, 3) := by decide +kernel
theorem d355_667 : decode cL_law 667 = .ok (.aload_n 1, 1) := by decide +kernel
theorem d355_668 : decode cL_law 668 = .ok (.aload_n 0, 1) := by decide +kernel
theorem d355_669 : decode cL_law 669 = .ok (.iload 5, 2) := by decide +kernel
theorem d355_671 : decode cL_law 671 = .ok (.iconst 1, 1) := by decide +kernel
theorem d355_672 : decode cL_law 672 = .ok (.iadd, 1) := by decide +kernel
theorem d355_673 : decode cL_law 673 = .ok (.iaload, 1) := by decide +kernel
theorem d355_674 : decode cL_law 674 = .ok (.aload_n 0, 1) := by decide +kernel
theorem d355_675 : decode cL_law 675 = .ok (.iload 5, 2) := by decide +kernel
theorem d355_677 : decode cL_law 677 = .ok (.iconst 2, 1) := by decide +kernel
theorem d355_678 : decode cL_law 678 = .ok (.iadd, 1) := by decide +kernel
theorem d355_679 : decode cL_law 679 = .ok (.iaload, 1) := by decide +kernel
theorem d355_680 : decode cL_law 680 = .ok (.aload_n 0, 1) := by decide +kernel
theorem d355_681 : decode cL_law 681 = .ok (.iload 5, 2) := by decide +kernel
theorem d355_683 : decode cL_law 683 = .ok (.iconst 3, 1) := by decide +kernel
theorem d355_684 : decode cL_law 684 = .ok (.iadd, 1) := by decide +kernel
theorem d355_685 : decode cL_law 685 = .ok (.iaload, 1) := by decide +kernel
theorem d355_686 : decode cL_law 686 = .ok (.aload_n 3, 1) := by decide +kernel
theorem d355_687 : decode cL_law 687 = .ok (.invokestatic 208, 3) := by decide +kernel
theorem d355_690 : decode cL_law 690 = .ok (.istore 6, 2) := by decide +kernel
theorem d355_692 : decode cL_law 692 = .ok (.aload_n 2, 1) := by decide +kernel
theorem d355_693 : decode cL_law 693 = .ok (.aload_n 0, 1) := by decide +kernel
theorem d355_694 : decode cL_law 694 = .ok (.iload 5, 2) := by decide +kernel
theorem d355_696 : decode cL_law 696 = .ok (.iconst 1, 1) := by decide +kernel
theorem d355_697 : decode cL_law 697 = .ok (.iadd, 1) := by decide +kernel
theorem d355_698 : decode cL_law 698 = .ok (.iaload, 1) := by decide +kernel
theorem d355_699 : decode cL_law 699 = .ok (.aload_n 0, 1) := by decide +kernel
theorem d355_700 : decode cL_law 700 = .ok (.iload 5, 2) := by decide +kernel
theorem d355_702 : decode cL_law 702 = .ok (.iconst 2, 1) := by decide +kernel
theorem d355_703 : decode cL_law 703 = .ok (.iadd, 1) := by decide +kernel
theorem d355_704 : decode cL_law 704 = .ok (.iaload, 1) := by decide +kernel
theorem d355_705 : decode cL_law 705 = .ok (.aload_n 0, 1) := by decide +kernel
theorem d355_706 : decode cL_law 706 = .ok (.iload 5, 2) := by decide +kernel
theorem d355_708 : decode cL_law 708 = .ok (.iconst 3, 1) := by decide +kernel
theorem d355_709 : decode cL_law 709 = .ok (.iadd, 1) := by decide +kernel
theorem d355_710 : decode cL_law 710 = .ok (.iaload, 1) := by decide +kernel
theorem d355_711 : decode cL_law 711 = .ok (.invokevirtual 210, 3) := by decide +kernel
theorem d355_714 : decode cL_law 714 = .ok (.istore 7, 2) := by decide +kernel
theorem d355_716 : decode cL_law 716 = .ok (.aload_n 2, 1) := by decide +kernel
theorem d355_717 : decode cL_law 717 = .ok (.invokevirtual 194, 3) := by decide +kernel
theorem d355_720 : decode cL_law 720 = .ok (.iload 6, 2) := by decide +kernel
theorem d355_722 : decode cL_law 722 = .ok (.if_icmp .eq 5, 3) := by decide +kernel
theorem d355_725 : decode cL_law 725 = .ok (.iconst 0, 1) := by decide +kernel
theorem d355_726 : decode cL_law 726 = .ok (.ireturn, 1) := by decide +kernel
theorem d355_727 : decode cL_law 727 = .ok (.iload 6, 2) := by decide +kernel
theorem d355_729 : decode cL_law 729 = .ok (.ifCond .ne 15, 3) := by decide +kernel
theorem d355_732 : decode cL_law 732 = .ok (.aload_n 3, 1) := by decide +kernel
theorem d355_733 : decode cL_law 733 = .ok (.iconst 0, 1) := by decide +kernel
theorem d355_734 : decode cL_law 734 = .ok (.laload, 1) := by decide +kernel
theorem d355_735 : decode cL_law 735 = .ok (.iload 7, 2) := by decide +kernel
theorem d355_737 : decode cL_law 737 = .ok (.i2l, 1) := by decide +kernel
theorem d355_738 : decode cL_law 738 = .ok (.lcmp, 1) := by decide +kernel
theorem d355_739 : decode cL_law 739 = .ok (.ifCond .eq 5, 3) := by decide +kernel
theorem d355_742 : decode cL_law 742 = .ok (.iconst 0, 1) := by decide +kernel
theorem d355_743 : decode cL_law 743 = .ok (.ireturn, 1) := by decide +kernel
theorem d355_744 : decode cL_law 744 = .ok (.goto 2822, 3) := by decide +kernel
theorem d355_747 : decode cL_law 747 = .ok (.aload_n 1, 1) := by decide +kernel
theorem d355_748 : decode cL_law 748 = .ok (.aload_n 0, 1) := by decide +kernel
theorem d355_749 : decode cL_law 749 = .ok (.iload 5, 2) := by decide +kernel
theorem d355_751 : decode cL_law 751 = .ok (.iconst 1, 1) := by decide +kernel
theorem d355_752 : decode cL_law 752 = .ok (.iadd, 1) := by decide +kernel
theorem d355_753 : decode cL_law 753 = .ok (.iaload, 1) := by decide +kernel
theorem d355_754 : decode cL_law 754 = .ok (.aload_n 0, 1) := by decide +kernel
theorem d355_755 : decode cL_law 755 = .ok (.iload 5, 2) := by decide +kernel
theorem d355_757 : decode cL_law 757 = .ok (.iconst 2, 1) := by decide +kernel
theorem d355_758 : decode cL_law 758 = .ok (.iadd, 1) := by decide +kernel
theorem d355_759 : decode cL_law 759 = .ok (.iaload, 1) := by decide +kernel
theorem d355_760 : decode cL_law 760 = .ok (.aload_n 3, 1) := by decide +kernel
theorem d355_761 : decode cL_law 761 = .ok (.invokestatic 211, 3) := by decide +kernel
theorem d355_764 : decode cL_law 764 = .ok (.istore 6, 2) := by decide +kernel
theorem d355_766 : decode cL_law 766 = .ok (.aload_n 2, 1) := by decide +kernel
theorem d355_767 : decode cL_law 767 = .ok (.aload_n 0, 1) := by decide +kernel
theorem d355_768 : decode cL_law 768 = .ok (.iload 5, 2) := by decide +kernel
theorem d355_770 : decode cL_law 770 = .ok (.iconst 1, 1) := by decide +kernel
theorem d355_771 : decode cL_law 771 = .ok (.iadd, 1) := by decide +kernel
theorem d355_772 : decode cL_law 772 = .ok (.iaload, 1) := by decide +kernel
theorem d355_773 : decode cL_law 773 = .ok (.aload_n 0, 1) := by decide +kernel
theorem d355_774 : decode cL_law 774 = .ok (.iload 5, 2) := by decide +kernel
theorem d355_776 : decode cL_law 776 = .ok (.iconst 2, 1) := by decide +kernel
theorem d355_777 : decode cL_law 777 = .ok (.iadd, 1) := by decide +kernel
theorem d355_778 : decode cL_law 778 = .ok (.iaload, 1) := by decide +kernel
theorem d355_779 : decode cL_law 779 = .ok (.invokevirtual 213, 3) := by decide +kernel
theorem d355_782 : decode cL_law 782 = .ok (.istore 7, 2) := by decide +kernel
theorem d355_784 : decode cL_law 784 = .ok (.aload_n 2, 1) := by decide +kernel
theorem d355_785 : decode cL_law 785 = .ok (.invokevirtual 194, 3) := by decide +kernel
theorem d355_788 : decode cL_law 788 = .ok (.iload 6, 2) := by decide +kernel
theorem d355_790 : decode cL_law 790 = .ok (.if_icmp .eq 5, 3) := by decide +kernel
theorem d355_793 : decode cL_law 793 = .ok (.iconst 0, 1) := by decide +kernel
theorem d355_794 : decode cL_law 794 = .ok (.ireturn, 1) := by decide +kernel
theorem d355_795 : decode cL_law 795 = .ok (.iload 6, 2) := by decide +kernel
theorem d355_797 : decode cL_law 797 = .ok (.ifCond .ne 15, 3) := by decide +kernel
theorem d355_800 : decode cL_law 800 = .ok (.aload_n 3, 1) := by decide +kernel
theorem d355_801 : decode cL_law 801 = .ok (.iconst 0, 1) := by decide +kernel
theorem d355_802 : decode cL_law 802 = .ok (.laload, 1) := by decide +kernel
theorem d355_803 : decode cL_law 803 = .ok (.iload 7, 2) := by decide +kernel
theorem d355_805 : decode cL_law 805 = .ok (.i2l, 1) := by decide +kernel
theorem d355_806 : decode cL_law 806 = .ok (.lcmp, 1) := by decide +kernel
theorem d355_807 : decode cL_law 807 = .ok (.ifCond .eq 5, 3) := by decide +kernel
theorem d355_810 : decode cL_law 810 = .ok (.iconst 0, 1) := by decide +kernel
theorem d355_811 : decode cL_law 811 = .ok (.ireturn, 1) := by decide +kernel
theorem d355_812 : decode cL_law 812 = .ok (.goto 2754, 3) := by decide +kernel
theorem d355_815 : decode cL_law 815 = .ok (.aload_n 1, 1) := by decide +kernel
theorem d355_816 : decode cL_law 816 = .ok (.aload_n 0, 1) := by decide +kernel
theorem d355_817 : decode cL_law 817 = .ok (.iload 5, 2) := by decide +kernel
theorem d355_819 : decode cL_law 819 = .ok (.iconst 1, 1) := by decide +kernel
theorem d355_820 : decode cL_law 820 = .ok (.iadd, 1) := by decide +kernel
theorem d355_821 : decode cL_law 821 = .ok (.iaload, 1) := by decide +kernel
theorem d355_822 : decode cL_law 822 = .ok (.aload_n 3, 1) := by decide +kernel
theorem d355_823 : decode cL_law 823 = .ok (.invokestatic 214, 3) := by decide +kernel
theorem d355_826 : decode cL_law 826 = .ok (.istore 6, 2) := by decide +kernel
theorem d355_828 : decode cL_law 828 = .ok (.aload_n 2, 1) := by decide +kernel
theorem d355_829 : decode cL_law 829 = .ok (.aload_n 0, 1) := by decide +kernel
theorem d355_830 : decode cL_law 830 = .ok (.iload 5, 2) := by decide +kernel
theorem d355_832 : decode cL_law 832 = .ok (.iconst 1, 1) := by decide +kernel
theorem d355_833 : decode cL_law 833 = .ok (.iadd, 1) := by decide +kernel
theorem d355_834 : decode cL_law 834 = .ok (.iaload, 1) := by decide +kernel
theorem d355_835 : decode cL_law 835 = .ok (.invokevirtual 216, 3) := by decide +kernel
theorem d355_838 : decode cL_law 838 = .ok (.istore 7, 2) := by decide +kernel
theorem d355_840 : decode cL_law 840 = .ok (.aload_n 2, 1) := by decide +kernel
theorem d355_841 : decode cL_law 841 = .ok (.invokevirtual 194, 3) := by decide +kernel
theorem d355_844 : decode cL_law 844 = .ok (.iload 6, 2) := by decide +kernel
theorem d355_846 : decode cL_law 846 = .ok (.if_icmp .eq 5, 3) := by decide +kernel
theorem d355_849 : decode cL_law 849 = .ok (.iconst 0, 1) := by decide +kernel
theorem d355_850 : decode cL_law 850 = .ok (.ireturn, 1) := by decide +kernel
theorem d355_851 : decode cL_law 851 = .ok (.iload 6, 2) := by decide +kernel
theorem d355_853 : decode cL_law 853 = .ok (.ifCond .ne 15, 3) := by decide +kernel
theorem d355_856 : decode cL_law 856 = .ok (.aload_n 3, 1) := by decide +kernel
theorem d355_857 : decode cL_law 857 = .ok (.iconst 0, 1) := by decide +kernel
theorem d355_858 : decode cL_law 858 = .ok (.laload, 1) := by decide +kernel
theorem d355_859 : decode cL_law 859 = .ok (.iload 7, 2) := by decide +kernel
theorem d355_861 : decode cL_law 861 = .ok (.i2l, 1) := by decide +kernel
theorem d355_862 : decode cL_law 862 = .ok (.lcmp, 1) := by decide +kernel
theorem d355_863 : decode cL_law 863 = .ok (.ifCond .eq 5, 3) := by decide +kernel
theorem d355_866 : decode cL_law 866 = .ok (.iconst 0, 1) := by decide +kernel
theorem d355_867 : decode cL_law 867 = .ok (.ireturn, 1) := by decide +kernel
theorem d355_868 : decode cL_law 868 = .ok (.goto 2698, 3) := by decide +kernel
theorem d355_871 : decode cL_law 871 = .ok (.aload_n 1, 1) := by decide +kernel
theorem d355_872 : decode cL_law 872 = .ok (.aload_n 0, 1) := by decide +kernel
theorem d355_873 : decode cL_law 873 = .ok (.iload 5, 2) := by decide +kernel
theorem d355_875 : decode cL_law 875 = .ok (.iconst 1, 1) := by decide +kernel
theorem d355_876 : decode cL_law 876 = .ok (.iadd, 1) := by decide +kernel
theorem d355_877 : decode cL_law 877 = .ok (.iaload, 1) := by decide +kernel
theorem d355_878 : decode cL_law 878 = .ok (.aload_n 3, 1) := by decide +kernel
theorem d355_879 : decode cL_law 879 = .ok (.invokestatic 217, 3) := by decide +kernel
theorem d355_882 : decode cL_law 882 = .ok (.istore 6, 2) := by decide +kernel
theorem d355_884 : decode cL_law 884 = .ok (.aload_n 2, 1) := by decide +kernel
theorem d355_885 : decode cL_law 885 = .ok (.aload_n 0, 1) := by decide +kernel
theorem d355_886 : decode cL_law 886 = .ok (.iload 5, 2) := by decide +kernel
theorem d355_888 : decode cL_law 888 = .ok (.iconst 1, 1) := by decide +kernel
theorem d355_889 : decode cL_law 889 = .ok (.iadd, 1) := by decide +kernel
theorem d355_890 : decode cL_law 890 = .ok (.iaload, 1) := by decide +kernel
theorem d355_891 : decode cL_law 891 = .ok (.invokevirtual 219, 3) := by decide +kernel
theorem d355_894 : decode cL_law 894 = .ok (.istore 7, 2) := by decide +kernel
theorem d355_896 : decode cL_law 896 = .ok (.aload_n 2, 1) := by decide +kernel
theorem d355_897 : decode cL_law 897 = .ok (.invokevirtual 194, 3) := by decide +kernel
theorem d355_900 : decode cL_law 900 = .ok (.iload 6, 2) := by decide +kernel
theorem d355_902 : decode cL_law 902 = .ok (.if_icmp .eq 5, 3) := by decide +kernel
theorem d355_905 : decode cL_law 905 = .ok (.iconst 0, 1) := by decide +kernel
theorem d355_906 : decode cL_law 906 = .ok (.ireturn, 1) := by decide +kernel
theorem d355_907 : decode cL_law 907 = .ok (.iload 6, 2) := by decide +kernel
theorem d355_909 : decode cL_law 909 = .ok (.ifCond .ne 15, 3) := by decide +kernel
theorem d355_912 : decode cL_law 912 = .ok (.aload_n 3, 1) := by decide +kernel
theorem d355_913 : decode cL_law 913 = .ok (.iconst 0, 1) := by decide +kernel
theorem d355_914 : decode cL_law 914 = .ok (.laload, 1) := by decide +kernel
theorem d355_915 : decode cL_law 915 = .ok (.iload 7, 2) := by decide +kernel
theorem d355_917 : decode cL_law 917 = .ok (.i2l, 1) := by decide +kernel
theorem d355_918 : decode cL_law 918 = .ok (.lcmp, 1) := by decide +kernel
theorem d355_919 : decode cL_law 919 = .ok (.ifCond .eq 5, 3) := by decide +kernel
theorem d355_922 : decode cL_law 922 = .ok (.iconst 0, 1) := by decide +kernel
theorem d355_923 : decode cL_law 923 = .ok (.ireturn, 1) := by decide +kernel
theorem d355_924 : decode cL_law 924 = .ok (.goto 2642, 3) := by decide +kernel
theorem d355_927 : decode cL_law 927 = .ok (.aload_n 1, 1) := by decide +kernel
theorem d355_928 : decode cL_law 928 = .ok (.aload_n 0, 1) := by decide +kernel
theorem d355_929 : decode cL_law 929 = .ok (.iload 5, 2) := by decide +kernel
theorem d355_931 : decode cL_law 931 = .ok (.iconst 1, 1) := by decide +kernel
theorem d355_932 : decode cL_law 932 = .ok (.iadd, 1) := by decide +kernel
theorem d355_933 : decode cL_law 933 = .ok (.iaload, 1) := by decide +kernel
theorem d355_934 : decode cL_law 934 = .ok (.aload_n 0, 1) := by decide +kernel
theorem d355_935 : decode cL_law 935 = .ok (.iload 5, 2) := by decide +kernel
theorem d355_937 : decode cL_law 937 = .ok (.iconst 2, 1) := by decide +kernel
theorem d355_938 : decode cL_law 938 = .ok (.iadd, 1) := by decide +kernel
theorem d355_939 : decode cL_law 939 = .ok (.iaload, 1) := by decide +kernel
theorem d355_940 : decode cL_law 940 = .ok (.aload_n 0, 1) := by decide +kernel
theorem d355_941 : decode cL_law 941 = .ok (.iload 5, 2) := by decide +kernel
theorem d355_943 : decode cL_law 943 = .ok (.iconst 3, 1) := by decide +kernel
theorem d355_944 : decode cL_law 944 = .ok (.iadd, 1) := by decide +kernel
theorem d355_945 : decode cL_law 945 = .ok (.iaload, 1) := by decide +kernel
theorem d355_946 : decode cL_law 946 = .ok (.aload_n 3, 1) := by decide +kernel
theorem d355_947 : decode cL_law 947 = .ok (.invokestatic 220, 3) := by decide +kernel
theorem d355_950 : decode cL_law 950 = .ok (.istore 6, 2) := by decide +kernel
theorem d355_952 : decode cL_law 952 = .ok (.aload_n 2, 1) := by decide +kernel
theorem d355_953 : decode cL_law 953 = .ok (.aload_n 0, 1) := by decide +kernel
theorem d355_954 : decode cL_law 954 = .ok (.iload 5, 2) := by decide +kernel
theorem d355_956 : decode cL_law 956 = .ok (.iconst 1, 1) := by decide +kernel
theorem d355_957 : decode cL_law 957 = .ok (.iadd, 1) := by decide +kernel
theorem d355_958 : decode cL_law 958 = .ok (.iaload, 1) := by decide +kernel
theorem d355_959 : decode cL_law 959 = .ok (.aload_n 0, 1) := by decide +kernel
theorem d355_960 : decode cL_law 960 = .ok (.iload 5, 2) := by decide +kernel
theorem d355_962 : decode cL_law 962 = .ok (.iconst 2, 1) := by decide +kernel
theorem d355_963 : decode cL_law 963 = .ok (.iadd, 1) := by decide +kernel
theorem d355_964 : decode cL_law 964 = .ok (.iaload, 1) := by decide +kernel
theorem d355_965 : decode cL_law 965 = .ok (.aload_n 0, 1) := by decide +kernel
theorem d355_966 : decode cL_law 966 = .ok (.iload 5, 2) := by decide +kernel
theorem d355_968 : decode cL_law 968 = .ok (.iconst 3, 1) := by decide +kernel
theorem d355_969 : decode cL_law 969 = .ok (.iadd, 1) := by decide +kernel
theorem d355_970 : decode cL_law 970 = .ok (.iaload, 1) := by decide +kernel
theorem d355_971 : decode cL_law 971 = .ok (.invokevirtual 222, 3) := by decide +kernel
theorem d355_974 : decode cL_law 974 = .ok (.istore 7, 2) := by decide +kernel
theorem d355_976 : decode cL_law 976 = .ok (.aload_n 2, 1) := by decide +kernel
theorem d355_977 : decode cL_law 977 = .ok (.invokevirtual 194, 3) := by decide +kernel
theorem d355_980 : decode cL_law 980 = .ok (.iload 6, 2) := by decide +kernel
theorem d355_982 : decode cL_law 982 = .ok (.if_icmp .eq 5, 3) := by decide +kernel
theorem d355_985 : decode cL_law 985 = .ok (.iconst 0, 1) := by decide +kernel
theorem d355_986 : decode cL_law 986 = .ok (.ireturn, 1) := by decide +kernel
theorem d355_987 : decode cL_law 987 = .ok (.iload 6, 2) := by decide +kernel
theorem d355_989 : decode cL_law 989 = .ok (.ifCond .ne 15, 3) := by decide +kernel
theorem d355_992 : decode cL_law 992 = .ok (.aload_n 3, 1) := by decide +kernel
theorem d355_993 : decode cL_law 993 = .ok (.iconst 0, 1) := by decide +kernel
theorem d355_994 : decode cL_law 994 = .ok (.laload, 1) := by decide +kernel
theorem d355_995 : decode cL_law 995 = .ok (.iload 7, 2) := by decide +kernel
theorem d355_997 : decode cL_law 997 = .ok (.i2l, 1) := by decide +kernel
theorem d355_998 : decode cL_law 998 = .ok (.lcmp, 1) := by decide +kernel
theorem d355_999 : decode cL_law 999 = .ok (.ifCond .eq 5, 3) := by decide +kernel
theorem d355_1002 : decode cL_law 1002 = .ok (.iconst 0, 1) := by decide +kernel
theorem d355_1003 : decode cL_law 1003 = .ok (.ireturn, 1) := by decide +kernel
theorem d355_1004 : decode cL_law 1004 = .ok (.goto 2562, 3) := by decide +kernel
theorem d355_1007 : decode cL_law 1007 = .ok (.aload_n 1, 1) := by decide +kernel
theorem d355_1008 : decode cL_law 1008 = .ok (.aload_n 0, 1) := by decide +kernel
theorem d355_1009 : decode cL_law 1009 = .ok (.iload 5, 2) := by decide +kernel
theorem d355_1011 : decode cL_law 1011 = .ok (.iconst 1, 1) := by decide +kernel
theorem d355_1012 : decode cL_law 1012 = .ok (.iadd, 1) := by decide +kernel
theorem d355_1013 : decode cL_law 1013 = .ok (.iaload, 1) := by decide +kernel
theorem d355_1014 : decode cL_law 1014 = .ok (.aload_n 0, 1) := by decide +kernel
theorem d355_1015 : decode cL_law 1015 = .ok (.iload 5, 2) := by decide +kernel
theorem d355_1017 : decode cL_law 1017 = .ok (.iconst 2, 1) := by decide +kernel
theorem d355_1018 : decode cL_law 1018 = .ok (.iadd, 1) := by decide +kernel
theorem d355_1019 : decode cL_law 1019 = .ok (.iaload, 1) := by decide +kernel
theorem d355_1020 : decode cL_law 1020 = .ok (.aload_n 3, 1) := by decide +kernel
theorem d355_1021 : decode cL_law 1021 = .ok (.invokestatic 223, 3) := by decide +kernel
theorem d355_1024 : decode cL_law 1024 = .ok (.istore 6, 2) := by decide +kernel
theorem d355_1026 : decode cL_law 1026 = .ok (.aload_n 2, 1) := by decide +kernel
theorem d355_1027 : decode cL_law 1027 = .ok (.aload_n 0, 1) := by decide +kernel
theorem d355_1028 : decode cL_law 1028 = .ok (.iload 5, 2) := by decide +kernel
theorem d355_1030 : decode cL_law 1030 = .ok (.iconst 1, 1) := by decide +kernel
theorem d355_1031 : decode cL_law 1031 = .ok (.iadd, 1) := by decide +kernel
theorem d355_1032 : decode cL_law 1032 = .ok (.iaload, 1) := by decide +kernel
theorem d355_1033 : decode cL_law 1033 = .ok (.aload_n 0, 1) := by decide +kernel
theorem d355_1034 : decode cL_law 1034 = .ok (.iload 5, 2) := by decide +kernel
theorem d355_1036 : decode cL_law 1036 = .ok (.iconst 2, 1) := by decide +kernel
theorem d355_1037 : decode cL_law 1037 = .ok (.iadd, 1) := by decide +kernel
theorem d355_1038 : decode cL_law 1038 = .ok (.iaload, 1) := by decide +kernel
theorem d355_1039 : decode cL_law 1039 = .ok (.invokevirtual 225, 3) := by decide +kernel
theorem d355_1042 : decode cL_law 1042 = .ok (.istore 7, 2) := by decide +kernel
theorem d355_1044 : decode cL_law 1044 = .ok (.aload_n 2, 1) := by decide +kernel
theorem d355_1045 : decode cL_law 1045 = .ok (.invokevirtual 194, 3) := by decide +kernel
theorem d355_1048 : decode cL_law 1048 = .ok (.iload 6, 2) := by decide +kernel
theorem d355_1050 : decode cL_law 1050 = .ok (.if_icmp .eq 5, 3) := by decide +kernel
theorem d355_1053 : decode cL_law 1053 = .ok (.iconst 0, 1) := by decide +kernel
theorem d355_1054 : decode cL_law 1054 = .ok (.ireturn, 1) := by decide +kernel
theorem d355_1055 : decode cL_law 1055 = .ok (.iload 6, 2) := by decide +kernel
theorem d355_1057 : decode cL_law 1057 = .ok (.ifCond .ne 15, 3) := by decide +kernel
theorem d355_1060 : decode cL_law 1060 = .ok (.aload_n 3, 1) := by decide +kernel
theorem d355_1061 : decode cL_law 1061 = .ok (.iconst 0, 1) := by decide +kernel
theorem d355_1062 : decode cL_law 1062 = .ok (.laload, 1) := by decide +kernel
theorem d355_1063 : decode cL_law 1063 = .ok (.iload 7, 2) := by decide +kernel
theorem d355_1065 : decode cL_law 1065 = .ok (.i2l, 1) := by decide +kernel
theorem d355_1066 : decode cL_law 1066 = .ok (.lcmp, 1) := by decide +kernel
theorem d355_1067 : decode cL_law 1067 = .ok (.ifCond .eq 5, 3) := by decide +kernel
theorem d355_1070 : decode cL_law 1070 = .ok (.iconst 0, 1) := by decide +kernel
theorem d355_1071 : decode cL_law 1071 = .ok (.ireturn, 1) := by decide +kernel
theorem d355_1072 : decode cL_law 1072 = .ok (.goto 2494, 3) := by decide +kernel
theorem d355_1075 : decode cL_law 1075 = .ok (.aload_n 1, 1) := by decide +kernel
theorem d355_1076 : decode cL_law 1076 = .ok (.aload_n 0, 1) := by decide +kernel
theorem d355_1077 : decode cL_law 1077 = .ok (.iload 5, 2) := by decide +kernel
theorem d355_1079 : decode cL_law 1079 = .ok (.iconst 1, 1) := by decide +kernel
theorem d355_1080 : decode cL_law 1080 = .ok (.iadd, 1) := by decide +kernel
theorem d355_1081 : decode cL_law 1081 = .ok (.iaload, 1) := by decide +kernel
theorem d355_1082 : decode cL_law 1082 = .ok (.aload_n 3, 1) := by decide +kernel
theorem d355_1083 : decode cL_law 1083 = .ok (.invokestatic 226, 3) := by decide +kernel
theorem d355_1086 : decode cL_law 1086 = .ok (.istore 6, 2) := by decide +kernel
theorem d355_1088 : decode cL_law 1088 = .ok (.aload_n 2, 1) := by decide +kernel
theorem d355_1089 : decode cL_law 1089 = .ok (.aload_n 0, 1) := by decide +kernel
theorem d355_1090 : decode cL_law 1090 = .ok (.iload 5, 2) := by decide +kernel
theorem d355_1092 : decode cL_law 1092 = .ok (.iconst 1, 1) := by decide +kernel
theorem d355_1093 : decode cL_law 1093 = .ok (.iadd, 1) := by decide +kernel
theorem d355_1094 : decode cL_law 1094 = .ok (.iaload, 1) := by decide +kernel
theorem d355_1095 : decode cL_law 1095 = .ok (.invokevirtual 228, 3) := by decide +kernel
theorem d355_1098 : decode cL_law 1098 = .ok (.istore 7, 2) := by decide +kernel
theorem d355_1100 : decode cL_law 1100 = .ok (.aload_n 2, 1) := by decide +kernel
theorem d355_1101 : decode cL_law 1101 = .ok (.invokevirtual 194, 3) := by decide +kernel
theorem d355_1104 : decode cL_law 1104 = .ok (.iload 6, 2) := by decide +kernel
theorem d355_1106 : decode cL_law 1106 = .ok (.if_icmp .eq 5, 3) := by decide +kernel
theorem d355_1109 : decode cL_law 1109 = .ok (.iconst 0, 1) := by decide +kernel
theorem d355_1110 : decode cL_law 1110 = .ok (.ireturn, 1) := by decide +kernel
theorem d355_1111 : decode cL_law 1111 = .ok (.iload 6, 2) := by decide +kernel
theorem d355_1113 : decode cL_law 1113 = .ok (.ifCond .ne 15, 3) := by decide +kernel
theorem d355_1116 : decode cL_law 1116 = .ok (.aload_n 3, 1) := by decide +kernel
theorem d355_1117 : decode cL_law 1117 = .ok (.iconst 0, 1) := by decide +kernel
theorem d355_1118 : decode cL_law 1118 = .ok (.laload, 1) := by decide +kernel
theorem d355_1119 : decode cL_law 1119 = .ok (.iload 7, 2) := by decide +kernel
theorem d355_1121 : decode cL_law 1121 = .ok (.i2l, 1) := by decide +kernel
theorem d355_1122 : decode cL_law 1122 = .ok (.lcmp, 1) := by decide +kernel
theorem d355_1123 : decode cL_law 1123 = .ok (.ifCond .eq 5, 3) := by decide +kernel
theorem d355_1126 : decode cL_law 1126 = .ok (.iconst 0, 1) := by decide +kernel
theorem d355_1127 : decode cL_law 1127 = .ok (.ireturn, 1) := by decide +kernel
theorem d355_1128 : decode cL_law 1128 = .ok (.goto 2438, 3) := by decide +kernel
theorem d355_1131 : decode cL_law 1131 = .ok (.aload_n 1, 1) := by decide +kernel
theorem d355_1132 : decode cL_law 1132 = .ok (.aload_n 0, 1) := by decide +kernel
theorem d355_1133 : decode cL_law 1133 = .ok (.iload 5, 2) := by decide +kernel
theorem d355_1135 : decode cL_law 1135 = .ok (.iconst 1, 1) := by decide +kernel
theorem d355_1136 : decode cL_law 1136 = .ok (.iadd, 1) := by decide +kernel
theorem d355_1137 : decode cL_law 1137 = .ok (.iaload, 1) := by decide +kernel
theorem d355_1138 : decode cL_law 1138 = .ok (.aload_n 3, 1) := by decide +kernel
theorem d355_1139 : decode cL_law 1139 = .ok (.invokestatic 229, 3) := by decide +kernel
theorem d355_1142 : decode cL_law 1142 = .ok (.istore 6, 2) := by decide +kernel
theorem d355_1144 : decode cL_law 1144 = .ok (.aload_n 2, 1) := by decide +kernel
theorem d355_1145 : decode cL_law 1145 = .ok (.aload_n 0, 1) := by decide +kernel
theorem d355_1146 : decode cL_law 1146 = .ok (.iload 5, 2) := by decide +kernel
theorem d355_1148 : decode cL_law 1148 = .ok (.iconst 1, 1) := by decide +kernel
theorem d355_1149 : decode cL_law 1149 = .ok (.iadd, 1) := by decide +kernel
theorem d355_1150 : decode cL_law 1150 = .ok (.iaload, 1) := by decide +kernel
theorem d355_1151 : decode cL_law 1151 = .ok (.invokevirtual 231, 3) := by decide +kernel
theorem d355_1154 : decode cL_law 1154 = .ok (.istore 7, 2) := by decide +kernel
theorem d355_1156 : decode cL_law 1156 = .ok (.aload_n 2, 1) := by decide +kernel
theorem d355_1157 : decode cL_law 1157 = .ok (.invokevirtual 194, 3) := by decide +kernel
theorem d355_1160 : decode cL_law 1160 = .ok (.iload 6, 2) := by decide +kernel
theorem d355_1162 : decode cL_law 1162 = .ok (.if_icmp .eq 5, 3) := by decide +kernel
theorem d355_1165 : decode cL_law 1165 = .ok (.iconst 0, 1) := by decide +kernel
theorem d355_1166 : decode cL_law 1166 = .ok (.ireturn, 1) := by decide +kernel
theorem d355_1167 : decode cL_law 1167 = .ok (.iload 6, 2) := by decide +kernel
theorem d355_1169 : decode cL_law 1169 = .ok (.ifCond .ne 15, 3) := by decide +kernel
theorem d355_1172 : decode cL_law 1172 = .ok (.aload_n 3, 1) := by decide +kernel
theorem d355_1173 : decode cL_law 1173 = .ok (.iconst 0, 1) := by decide +kernel
theorem d355_1174 : decode cL_law 1174 = .ok (.laload, 1) := by decide +kernel
theorem d355_1175 : decode cL_law 1175 = .ok (.iload 7, 2) := by decide +kernel
theorem d355_1177 : decode cL_law 1177 = .ok (.i2l, 1) := by decide +kernel
theorem d355_1178 : decode cL_law 1178 = .ok (.lcmp, 1) := by decide +kernel
theorem d355_1179 : decode cL_law 1179 = .ok (.ifCond .eq 5, 3) := by decide +kernel
theorem d355_1182 : decode cL_law 1182 = .ok (.iconst 0, 1) := by decide +kernel
theorem d355_1183 : decode cL_law 1183 = .ok (.ireturn, 1) := by decide +kernel
theorem d355_1184 : decode cL_law 1184 = .ok (.goto 2382, 3) := by decide +kernel
theorem d355_1187 : decode cL_law 1187 = .ok (.aload_n 1, 1) := by decide +kernel
theorem d355_1188 : decode cL_law 1188 = .ok (.aload_n 0, 1) := by decide +kernel
theorem d355_1189 : decode cL_law 1189 = .ok (.iload 5, 2) := by decide +kernel
theorem d355_1191 : decode cL_law 1191 = .ok (.iconst 1, 1) := by decide +kernel
theorem d355_1192 : decode cL_law 1192 = .ok (.iadd, 1) := by decide +kernel
theorem d355_1193 : decode cL_law 1193 = .ok (.iaload, 1) := by decide +kernel
theorem d355_1194 : decode cL_law 1194 = .ok (.aload_n 3, 1) := by decide +kernel
theorem d355_1195 : decode cL_law 1195 = .ok (.invokestatic 232, 3) := by decide +kernel
theorem d355_1198 : decode cL_law 1198 = .ok (.istore 6, 2) := by decide +kernel
theorem d355_1200 : decode cL_law 1200 = .ok (.aload_n 2, 1) := by decide +kernel
theorem d355_1201 : decode cL_law 1201 = .ok (.aload_n 0, 1) := by decide +kernel
theorem d355_1202 : decode cL_law 1202 = .ok (.iload 5, 2) := by decide +kernel
theorem d355_1204 : decode cL_law 1204 = .ok (.iconst 1, 1) := by decide +kernel
theorem d355_1205 : decode cL_law 1205 = .ok (.iadd, 1) := by decide +kernel
theorem d355_1206 : decode cL_law 1206 = .ok (.iaload, 1) := by decide +kernel
theorem d355_1207 : decode cL_law 1207 = .ok (.invokevirtual 234, 3) := by decide +kernel
theorem d355_1210 : decode cL_law 1210 = .ok (.istore 7, 2) := by decide +kernel
theorem d355_1212 : decode cL_law 1212 = .ok (.aload_n 2, 1) := by decide +kernel
theorem d355_1213 : decode cL_law 1213 = .ok (.invokevirtual 194, 3) := by decide +kernel
theorem d355_1216 : decode cL_law 1216 = .ok (.iload 6, 2) := by decide +kernel
theorem d355_1218 : decode cL_law 1218 = .ok (.if_icmp .eq 5, 3) := by decide +kernel
theorem d355_1221 : decode cL_law 1221 = .ok (.iconst 0, 1) := by decide +kernel
theorem d355_1222 : decode cL_law 1222 = .ok (.ireturn, 1) := by decide +kernel
theorem d355_1223 : decode cL_law 1223 = .ok (.iload 6, 2) := by decide +kernel
theorem d355_1225 : decode cL_law 1225 = .ok (.ifCond .ne 22, 3) := by decide +kernel
theorem d355_1228 : decode cL_law 1228 = .ok (.aload_n 3, 1) := by decide +kernel
theorem d355_1229 : decode cL_law 1229 = .ok (.iconst 0, 1) := by decide +kernel
theorem d355_1230 : decode cL_law 1230 = .ok (.laload, 1) := by decide +kernel
theorem d355_1231 : decode cL_law 1231 = .ok (.iload 7, 2) := by decide +kernel
theorem d355_1233 : decode cL_law 1233 = .ok (.ifCond .eq 7, 3) := by decide +kernel
theorem d355_1236 : decode cL_law 1236 = .ok (.lconst 1, 1) := by decide +kernel
theorem d355_1237 : decode cL_law 1237 = .ok (.goto 4, 3) := by decide +kernel
theorem d355_1240 : decode cL_law 1240 = .ok (.lconst 0, 1) := by decide +kernel
theorem d355_1241 : decode cL_law 1241 = .ok (.lcmp, 1) := by decide +kernel
theorem d355_1242 : decode cL_law 1242 = .ok (.ifCond .eq 5, 3) := by decide +kernel
theorem d355_1245 : decode cL_law 1245 = .ok (.iconst 0, 1) := by decide +kernel
theorem d355_1246 : decode cL_law 1246 = .ok (.ireturn, 1) := by decide +kernel
theorem d355_1247 : decode cL_law 1247 = .ok (.goto 2319, 3) := by decide +kernel
theorem d355_1250 : decode cL_law 1250 = .ok (.aload_n 1, 1) := by decide +kernel
theorem d355_1251 : decode cL_law 1251 = .ok (.aload_n 0, 1) := by decide +kernel
theorem d355_1252 : decode cL_law 1252 = .ok (.iload 5, 2) := by decide +kernel
theorem d355_1254 : decode cL_law 1254 = .ok (.iconst 1, 1) := by decide +kernel
theorem d355_1255 : decode cL_law 1255 = .ok (.iadd, 1) := by decide +kernel
theorem d355_1256 : decode cL_law 1256 = .ok (.iaload, 1) := by decide +kernel
theorem d355_1257 : decode cL_law 1257 = .ok (.aload_n 3, 1) := by decide +kernel
theorem d355_1258 : decode cL_law 1258 = .ok (.invokestatic 235, 3) := by decide +kernel
theorem d355_1261 : decode cL_law 1261 = .ok (.istore 6, 2) := by decide +kernel
theorem d355_1263 : decode cL_law 1263 = .ok (.aload_n 2, 1) := by decide +kernel
theorem d355_1264 : decode cL_law 1264 = .ok (.aload_n 0, 1) := by decide +kernel
theorem d355_1265 : decode cL_law 1265 = .ok (.iload 5, 2) := by decide +kernel
theorem d355_1267 : decode cL_law 1267 = .ok (.iconst 1, 1) := by decide +kernel
theorem d355_1268 : decode cL_law 1268 = .ok (.iadd, 1) := by decide +kernel
theorem d355_1269 : decode cL_law 1269 = .ok (.iaload, 1) := by decide +kernel
theorem d355_1270 : decode cL_law 1270 = .ok (.invokevirtual 237, 3) := by decide +kernel
theorem d355_1273 : decode cL_law 1273 = .ok (.istore 7, 2) := by decide +kernel
theorem d355_1275 : decode cL_law 1275 = .ok (.aload_n 2, 1) := by decide +kernel
theorem d355_1276 : decode cL_law 1276 = .ok (.invokevirtual 194, 3) := by decide +kernel
theorem d355_1279 : decode cL_law 1279 = .ok (.iload 6, 2) := by decide +kernel
theorem d355_1281 : decode cL_law 1281 = .ok (.if_icmp .eq 5, 3) := by decide +kernel
theorem d355_1284 : decode cL_law 1284 = .ok (.iconst 0, 1) := by decide +kernel
theorem d355_1285 : decode cL_law 1285 = .ok (.ireturn, 1) := by decide +kernel
theorem d355_1286 : decode cL_law 1286 = .ok (.iload 6, 2) := by decide +kernel
theorem d355_1288 : decode cL_law 1288 = .ok (.ifCond .ne 15, 3) := by decide +kernel
theorem d355_1291 : decode cL_law 1291 = .ok (.aload_n 3, 1) := by decide +kernel
theorem d355_1292 : decode cL_law 1292 = .ok (.iconst 0, 1) := by decide +kernel
theorem d355_1293 : decode cL_law 1293 = .ok (.laload, 1) := by decide +kernel
theorem d355_1294 : decode cL_law 1294 = .ok (.iload 7, 2) := by decide +kernel
theorem d355_1296 : decode cL_law 1296 = .ok (.i2l, 1) := by decide +kernel
theorem d355_1297 : decode cL_law 1297 = .ok (.lcmp, 1) := by decide +kernel
theorem d355_1298 : decode cL_law 1298 = .ok (.ifCond .eq 5, 3) := by decide +kernel
theorem d355_1301 : decode cL_law 1301 = .ok (.iconst 0, 1) := by decide +kernel
theorem d355_1302 : decode cL_law 1302 = .ok (.ireturn, 1) := by decide +kernel
theorem d355_1303 : decode cL_law 1303 = .ok (.goto 2263, 3) := by decide +kernel
theorem d355_1306 : decode cL_law 1306 = .ok (.aload_n 1, 1) := by decide +kernel
theorem d355_1307 : decode cL_law 1307 = .ok (.aload_n 0, 1) := by decide +kernel
theorem d355_1308 : decode cL_law 1308 = .ok (.iload 5, 2) := by decide +kernel
theorem d355_1310 : decode cL_law 1310 = .ok (.iconst 1, 1) := by decide +kernel
theorem d355_1311 : decode cL_law 1311 = .ok (.iadd, 1) := by decide +kernel
theorem d355_1312 : decode cL_law 1312 = .ok (.iaload, 1) := by decide +kernel
theorem d355_1313 : decode cL_law 1313 = .ok (.aload_n 3, 1) := by decide +kernel
theorem d355_1314 : decode cL_law 1314 = .ok (.invokestatic 238, 3) := by decide +kernel
theorem d355_1317 : decode cL_law 1317 = .ok (.istore 6, 2) := by decide +kernel
theorem d355_1319 : decode cL_law 1319 = .ok (.aload_n 2, 1) := by decide +kernel
theorem d355_1320 : decode cL_law 1320 = .ok (.aload_n 0, 1) := by decide +kernel
theorem d355_1321 : decode cL_law 1321 = .ok (.iload 5, 2) := by decide +kernel
theorem d355_1323 : decode cL_law 1323 = .ok (.iconst 1, 1) := by decide +kernel
theorem d355_1324 : decode cL_law 1324 = .ok (.iadd, 1) := by decide +kernel
theorem d355_1325 : decode cL_law 1325 = .ok (.iaload, 1) := by decide +kernel
theorem d355_1326 : decode cL_law 1326 = .ok (.invokevirtual 240, 3) := by decide +kernel
theorem d355_1329 : decode cL_law 1329 = .ok (.istore 7, 2) := by decide +kernel
theorem d355_1331 : decode cL_law 1331 = .ok (.aload_n 2, 1) := by decide +kernel
theorem d355_1332 : decode cL_law 1332 = .ok (.invokevirtual 194, 3) := by decide +kernel
theorem d355_1335 : decode cL_law 1335 = .ok (.iload 6, 2) := by decide +kernel
theorem d355_1337 : decode cL_law 1337 = .ok (.if_icmp .eq 5, 3) := by decide +kernel
theorem d355_1340 : decode cL_law 1340 = .ok (.iconst 0, 1) := by decide +kernel
theorem d355_1341 : decode cL_law 1341 = .ok (.ireturn, 1) := by decide +kernel
theorem d355_1342 : decode cL_law 1342 = .ok (.iload 6, 2) := by decide +kernel
theorem d355_1344 : decode cL_law 1344 = .ok (.ifCond .ne 15, 3) := by decide +kernel
theorem d355_1347 : decode cL_law 1347 = .ok (.aload_n 3, 1) := by decide +kernel
theorem d355_1348 : decode cL_law 1348 = .ok (.iconst 0, 1) := by decide +kernel
theorem d355_1349 : decode cL_law 1349 = .ok (.laload, 1) := by decide +kernel
theorem d355_1350 : decode cL_law 1350 = .ok (.iload 7, 2) := by decide +kernel
theorem d355_1352 : decode cL_law 1352 = .ok (.i2l, 1) := by decide +kernel
theorem d355_1353 : decode cL_law 1353 = .ok (.lcmp, 1) := by decide +kernel
theorem d355_1354 : decode cL_law 1354 = .ok (.ifCond .eq 5, 3) := by decide +kernel
theorem d355_1357 : decode cL_law 1357 = .ok (.iconst 0, 1) := by decide +kernel
theorem d355_1358 : decode cL_law 1358 = .ok (.ireturn, 1) := by decide +kernel
theorem d355_1359 : decode cL_law 1359 = .ok (.goto 2207, 3) := by decide +kernel
theorem d355_1362 : decode cL_law 1362 = .ok (.aload_n 1, 1) := by decide +kernel
theorem d355_1363 : decode cL_law 1363 = .ok (.aload_n 0, 1) := by decide +kernel
theorem d355_1364 : decode cL_law 1364 = .ok (.iload 5, 2) := by decide +kernel
theorem d355_1366 : decode cL_law 1366 = .ok (.iconst 1, 1) := by decide +kernel
theorem d355_1367 : decode cL_law 1367 = .ok (.iadd, 1) := by decide +kernel
theorem d355_1368 : decode cL_law 1368 = .ok (.iaload, 1) := by decide +kernel
theorem d355_1369 : decode cL_law 1369 = .ok (.aload_n 3, 1) := by decide +kernel
theorem d355_1370 : decode cL_law 1370 = .ok (.invokestatic 241, 3) := by decide +kernel
theorem d355_1373 : decode cL_law 1373 = .ok (.istore 6, 2) := by decide +kernel
theorem d355_1375 : decode cL_law 1375 = .ok (.aload_n 2, 1) := by decide +kernel
theorem d355_1376 : decode cL_law 1376 = .ok (.aload_n 0, 1) := by decide +kernel
theorem d355_1377 : decode cL_law 1377 = .ok (.iload 5, 2) := by decide +kernel
theorem d355_1379 : decode cL_law 1379 = .ok (.iconst 1, 1) := by decide +kernel
theorem d355_1380 : decode cL_law 1380 = .ok (.iadd, 1) := by decide +kernel
theorem d355_1381 : decode cL_law 1381 = .ok (.iaload, 1) := by decide +kernel
theorem d355_1382 : decode cL_law 1382 = .ok (.invokevirtual 243, 3) := by decide +kernel
theorem d355_1385 : decode cL_law 1385 = .ok (.istore 7, 2) := by decide +kernel
theorem d355_1387 : decode cL_law 1387 = .ok (.aload_n 2, 1) := by decide +kernel
theorem d355_1388 : decode cL_law 1388 = .ok (.invokevirtual 194, 3) := by decide +kernel
theorem d355_1391 : decode cL_law 1391 = .ok (.iload 6, 2) := by decide +kernel
theorem d355_1393 : decode cL_law 1393 = .ok (.if_icmp .eq 5, 3) := by decide +kernel
theorem d355_1396 : decode cL_law 1396 = .ok (.iconst 0, 1) := by decide +kernel
theorem d355_1397 : decode cL_law 1397 = .ok (.ireturn, 1) := by decide +kernel
theorem d355_1398 : decode cL_law 1398 = .ok (.iload 6, 2) := by decide +kernel
theorem d355_1400 : decode cL_law 1400 = .ok (.ifCond .ne 15, 3) := by decide +kernel
theorem d355_1403 : decode cL_law 1403 = .ok (.aload_n 3, 1) := by decide +kernel
theorem d355_1404 : decode cL_law 1404 = .ok (.iconst 0, 1) := by decide +kernel
theorem d355_1405 : decode cL_law 1405 = .ok (.laload, 1) := by decide +kernel
theorem d355_1406 : decode cL_law 1406 = .ok (.iload 7, 2) := by decide +kernel
theorem d355_1408 : decode cL_law 1408 = .ok (.i2l, 1) := by decide +kernel
theorem d355_1409 : decode cL_law 1409 = .ok (.lcmp, 1) := by decide +kernel
theorem d355_1410 : decode cL_law 1410 = .ok (.ifCond .eq 5, 3) := by decide +kernel
theorem d355_1413 : decode cL_law 1413 = .ok (.iconst 0, 1) := by decide +kernel
theorem d355_1414 : decode cL_law 1414 = .ok (.ireturn, 1) := by decide +kernel
theorem d355_1415 : decode cL_law 1415 = .ok (.goto 2151, 3) := by decide +kernel
theorem d355_1418 : decode cL_law 1418 = .ok (.aload_n 1, 1) := by decide +kernel
theorem d355_1419 : decode cL_law 1419 = .ok (.aload_n 0, 1) := by decide +kernel
theorem d355_1420 : decode cL_law 1420 = .ok (.iload 5, 2) := by decide +kernel
theorem d355_1422 : decode cL_law 1422 = .ok (.iconst 1, 1) := by decide +kernel
theorem d355_1423 : decode cL_law 1423 = .ok (.iadd, 1) := by decide +kernel
theorem d355_1424 : decode cL_law 1424 = .ok (.iaload, 1) := by decide +kernel
theorem d355_1425 : decode cL_law 1425 = .ok (.aload_n 3, 1) := by decide +kernel
theorem d355_1426 : decode cL_law 1426 = .ok (.invokestatic 244, 3) := by decide +kernel
theorem d355_1429 : decode cL_law 1429 = .ok (.istore 6, 2) := by decide +kernel
theorem d355_1431 : decode cL_law 1431 = .ok (.aload_n 2, 1) := by decide +kernel
theorem d355_1432 : decode cL_law 1432 = .ok (.aload_n 0, 1) := by decide +kernel
theorem d355_1433 : decode cL_law 1433 = .ok (.iload 5, 2) := by decide +kernel
theorem d355_1435 : decode cL_law 1435 = .ok (.iconst 1, 1) := by decide +kernel
theorem d355_1436 : decode cL_law 1436 = .ok (.iadd, 1) := by decide +kernel
theorem d355_1437 : decode cL_law 1437 = .ok (.iaload, 1) := by decide +kernel
theorem d355_1438 : decode cL_law 1438 = .ok (.invokevirtual 246, 3) := by decide +kernel
theorem d355_1441 : decode cL_law 1441 = .ok (.istore 7, 2) := by decide +kernel
theorem d355_1443 : decode cL_law 1443 = .ok (.aload_n 2, 1) := by decide +kernel
theorem d355_1444 : decode cL_law 1444 = .ok (.invokevirtual 194, 3) := by decide +kernel
theorem d355_1447 : decode cL_law 1447 = .ok (.iload 6, 2) := by decide +kernel
theorem d355_1449 : decode cL_law 1449 = .ok (.if_icmp .eq 5, 3) := by decide +kernel
theorem d355_1452 : decode cL_law 1452 = .ok (.iconst 0, 1) := by decide +kernel
theorem d355_1453 : decode cL_law 1453 = .ok (.ireturn, 1) := by decide +kernel
theorem d355_1454 : decode cL_law 1454 = .ok (.iload 6, 2) := by decide +kernel
theorem d355_1456 : decode cL_law 1456 = .ok (.ifCond .ne 15, 3) := by decide +kernel
theorem d355_1459 : decode cL_law 1459 = .ok (.aload_n 3, 1) := by decide +kernel
theorem d355_1460 : decode cL_law 1460 = .ok (.iconst 0, 1) := by decide +kernel
theorem d355_1461 : decode cL_law 1461 = .ok (.laload, 1) := by decide +kernel
theorem d355_1462 : decode cL_law 1462 = .ok (.iload 7, 2) := by decide +kernel
theorem d355_1464 : decode cL_law 1464 = .ok (.i2l, 1) := by decide +kernel
theorem d355_1465 : decode cL_law 1465 = .ok (.lcmp, 1) := by decide +kernel
theorem d355_1466 : decode cL_law 1466 = .ok (.ifCond .eq 5, 3) := by decide +kernel
theorem d355_1469 : decode cL_law 1469 = .ok (.iconst 0, 1) := by decide +kernel
theorem d355_1470 : decode cL_law 1470 = .ok (.ireturn, 1) := by decide +kernel
theorem d355_1471 : decode cL_law 1471 = .ok (.goto 2095, 3) := by decide +kernel
theorem d355_1474 : decode cL_law 1474 = .ok (.aload_n 1, 1) := by decide +kernel
theorem d355_1475 : decode cL_law 1475 = .ok (.aload_n 0, 1) := by decide +kernel
theorem d355_1476 : decode cL_law 1476 = .ok (.iload 5, 2) := by decide +kernel
theorem d355_1478 : decode cL_law 1478 = .ok (.iconst 1, 1) := by decide +kernel
theorem d355_1479 : decode cL_law 1479 = .ok (.iadd, 1) := by decide +kernel
theorem d355_1480 : decode cL_law 1480 = .ok (.iaload, 1) := by decide +kernel
theorem d355_1481 : decode cL_law 1481 = .ok (.aload_n 3, 1) := by decide +kernel
theorem d355_1482 : decode cL_law 1482 = .ok (.invokestatic 247, 3) := by decide +kernel
theorem d355_1485 : decode cL_law 1485 = .ok (.istore 6, 2) := by decide +kernel
theorem d355_1487 : decode cL_law 1487 = .ok (.aload_n 2, 1) := by decide +kernel
theorem d355_1488 : decode cL_law 1488 = .ok (.aload_n 0, 1) := by decide +kernel
theorem d355_1489 : decode cL_law 1489 = .ok (.iload 5, 2) := by decide +kernel
theorem d355_1491 : decode cL_law 1491 = .ok (.iconst 1, 1) := by decide +kernel
theorem d355_1492 : decode cL_law 1492 = .ok (.iadd, 1) := by decide +kernel
theorem d355_1493 : decode cL_law 1493 = .ok (.iaload, 1) := by decide +kernel
theorem d355_1494 : decode cL_law 1494 = .ok (.invokevirtual 249, 3) := by decide +kernel
theorem d355_1497 : decode cL_law 1497 = .ok (.istore 7, 2) := by decide +kernel
theorem d355_1499 : decode cL_law 1499 = .ok (.aload_n 2, 1) := by decide +kernel
theorem d355_1500 : decode cL_law 1500 = .ok (.invokevirtual 194, 3) := by decide +kernel
theorem d355_1503 : decode cL_law 1503 = .ok (.iload 6, 2) := by decide +kernel
theorem d355_1505 : decode cL_law 1505 = .ok (.if_icmp .eq 5, 3) := by decide +kernel
theorem d355_1508 : decode cL_law 1508 = .ok (.iconst 0, 1) := by decide +kernel
theorem d355_1509 : decode cL_law 1509 = .ok (.ireturn, 1) := by decide +kernel
theorem d355_1510 : decode cL_law 1510 = .ok (.iload 6, 2) := by decide +kernel
theorem d355_1512 : decode cL_law 1512 = .ok (.ifCond .ne 15, 3) := by decide +kernel
theorem d355_1515 : decode cL_law 1515 = .ok (.aload_n 3, 1) := by decide +kernel
theorem d355_1516 : decode cL_law 1516 = .ok (.iconst 0, 1) := by decide +kernel
theorem d355_1517 : decode cL_law 1517 = .ok (.laload, 1) := by decide +kernel
theorem d355_1518 : decode cL_law 1518 = .ok (.iload 7, 2) := by decide +kernel
theorem d355_1520 : decode cL_law 1520 = .ok (.i2l, 1) := by decide +kernel
theorem d355_1521 : decode cL_law 1521 = .ok (.lcmp, 1) := by decide +kernel
theorem d355_1522 : decode cL_law 1522 = .ok (.ifCond .eq 5, 3) := by decide +kernel
theorem d355_1525 : decode cL_law 1525 = .ok (.iconst 0, 1) := by decide +kernel
theorem d355_1526 : decode cL_law 1526 = .ok (.ireturn, 1) := by decide +kernel
theorem d355_1527 : decode cL_law 1527 = .ok (.goto 2039, 3) := by decide +kernel
theorem d355_1530 : decode cL_law 1530 = .ok (.aload_n 1, 1) := by decide +kernel
theorem d355_1531 : decode cL_law 1531 = .ok (.aload_n 0, 1) := by decide +kernel
theorem d355_1532 : decode cL_law 1532 = .ok (.iload 5, 2) := by decide +kernel
theorem d355_1534 : decode cL_law 1534 = .ok (.iconst 1, 1) := by decide +kernel
theorem d355_1535 : decode cL_law 1535 = .ok (.iadd, 1) := by decide +kernel
theorem d355_1536 : decode cL_law 1536 = .ok (.iaload, 1) := by decide +kernel
theorem d355_1537 : decode cL_law 1537 = .ok (.aload_n 3, 1) := by decide +kernel
theorem d355_1538 : decode cL_law 1538 = .ok (.invokestatic 250, 3) := by decide +kernel
theorem d355_1541 : decode cL_law 1541 = .ok (.istore 6, 2) := by decide +kernel
theorem d355_1543 : decode cL_law 1543 = .ok (.aload_n 2, 1) := by decide +kernel
theorem d355_1544 : decode cL_law 1544 = .ok (.aload_n 0, 1) := by decide +kernel
theorem d355_1545 : decode cL_law 1545 = .ok (.iload 5, 2) := by decide +kernel
theorem d355_1547 : decode cL_law 1547 = .ok (.iconst 1, 1) := by decide +kernel
theorem d355_1548 : decode cL_law 1548 = .ok (.iadd, 1) := by decide +kernel
theorem d355_1549 : decode cL_law 1549 = .ok (.iaload, 1) := by decide +kernel
theorem d355_1550 : decode cL_law 1550 = .ok (.invokevirtual 252, 3) := by decide +kernel
theorem d355_1553 : decode cL_law 1553 = .ok (.istore 7, 2) := by decide +kernel
theorem d355_1555 : decode cL_law 1555 = .ok (.aload_n 2, 1) := by decide +kernel
theorem d355_1556 : decode cL_law 1556 = .ok (.invokevirtual 194, 3) := by decide +kernel
theorem d355_1559 : decode cL_law 1559 = .ok (.iload 6, 2) := by decide +kernel
theorem d355_1561 : decode cL_law 1561 = .ok (.if_icmp .eq 5, 3) := by decide +kernel
theorem d355_1564 : decode cL_law 1564 = .ok (.iconst 0, 1) := by decide +kernel
theorem d355_1565 : decode cL_law 1565 = .ok (.ireturn, 1) := by decide +kernel
theorem d355_1566 : decode cL_law 1566 = .ok (.iload 6, 2) := by decide +kernel
theorem d355_1568 : decode cL_law 1568 = .ok (.ifCond .ne 15, 3) := by decide +kernel
theorem d355_1571 : decode cL_law 1571 = .ok (.aload_n 3, 1) := by decide +kernel
theorem d355_1572 : decode cL_law 1572 = .ok (.iconst 0, 1) := by decide +kernel
theorem d355_1573 : decode cL_law 1573 = .ok (.laload, 1) := by decide +kernel
theorem d355_1574 : decode cL_law 1574 = .ok (.iload 7, 2) := by decide +kernel
theorem d355_1576 : decode cL_law 1576 = .ok (.i2l, 1) := by decide +kernel
theorem d355_1577 : decode cL_law 1577 = .ok (.lcmp, 1) := by decide +kernel
theorem d355_1578 : decode cL_law 1578 = .ok (.ifCond .eq 5, 3) := by decide +kernel
theorem d355_1581 : decode cL_law 1581 = .ok (.iconst 0, 1) := by decide +kernel
theorem d355_1582 : decode cL_law 1582 = .ok (.ireturn, 1) := by decide +kernel
theorem d355_1583 : decode cL_law 1583 = .ok (.goto 1983, 3) := by decide +kernel
theorem d355_1586 : decode cL_law 1586 = .ok (.aload_n 1, 1) := by decide +kernel
theorem d355_1587 : decode cL_law 1587 = .ok (.aload_n 0, 1) := by decide +kernel
theorem d355_1588 : decode cL_law 1588 = .ok (.iload 5, 2) := by decide +kernel
theorem d355_1590 : decode cL_law 1590 = .ok (.iconst 1, 1) := by decide +kernel
theorem d355_1591 : decode cL_law 1591 = .ok (.iadd, 1) := by decide +kernel
theorem d355_1592 : decode cL_law 1592 = .ok (.iaload, 1) := by decide +kernel
theorem d355_1593 : decode cL_law 1593 = .ok (.aload_n 3, 1) := by decide +kernel
theorem d355_1594 : decode cL_law 1594 = .ok (.invokestatic 253, 3) := by decide +kernel
theorem d355_1597 : decode cL_law 1597 = .ok (.istore 6, 2) := by decide +kernel
theorem d355_1599 : decode cL_law 1599 = .ok (.aload_n 2, 1) := by decide +kernel
theorem d355_1600 : decode cL_law 1600 = .ok (.aload_n 0, 1) := by decide +kernel
theorem d355_1601 : decode cL_law 1601 = .ok (.iload 5, 2) := by decide +kernel
theorem d355_1603 : decode cL_law 1603 = .ok (.iconst 1, 1) := by decide +kernel
theorem d355_1604 : decode cL_law 1604 = .ok (.iadd, 1) := by decide +kernel
theorem d355_1605 : decode cL_law 1605 = .ok (.iaload, 1) := by decide +kernel
theorem d355_1606 : decode cL_law 1606 = .ok (.invokevirtual 255, 3) := by decide +kernel
theorem d355_1609 : decode cL_law 1609 = .ok (.istore 7, 2) := by decide +kernel
theorem d355_1611 : decode cL_law 1611 = .ok (.aload_n 2, 1) := by decide +kernel
theorem d355_1612 : decode cL_law 1612 = .ok (.invokevirtual 194, 3) := by decide +kernel
theorem d355_1615 : decode cL_law 1615 = .ok (.iload 6, 2) := by decide +kernel
theorem d355_1617 : decode cL_law 1617 = .ok (.if_icmp .eq 5, 3) := by decide +kernel
theorem d355_1620 : decode cL_law 1620 = .ok (.iconst 0, 1) := by decide +kernel
theorem d355_1621 : decode cL_law 1621 = .ok (.ireturn, 1) := by decide +kernel
theorem d355_1622 : decode cL_law 1622 = .ok (.iload 6, 2) := by decide +kernel
theorem d355_1624 : decode cL_law 1624 = .ok (.ifCond .ne 15, 3) := by decide +kernel
theorem d355_1627 : decode cL_law 1627 = .ok (.aload_n 3, 1) := by decide +kernel
theorem d355_1628 : decode cL_law 1628 = .ok (.iconst 0, 1) := by decide +kernel
theorem d355_1629 : decode cL_law 1629 = .ok (.laload, 1) := by decide +kernel
theorem d355_1630 : decode cL_law 1630 = .ok (.iload 7, 2) := by decide +kernel
theorem d355_1632 : decode cL_law 1632 = .ok (.i2l, 1) := by decide +kernel
theorem d355_1633 : decode cL_law 1633 = .ok (.lcmp, 1) := by decide +kernel
theorem d355_1634 : decode cL_law 1634 = .ok (.ifCond .eq 5, 3) := by decide +kernel
theorem d355_1637 : decode cL_law 1637 = .ok (.iconst 0, 1) := by decide +kernel
theorem d355_1638 : decode cL_law 1638 = .ok (.ireturn, 1) := by decide +kernel
theorem d355_1639 : decode cL_law 1639 = .ok (.goto 1927, 3) := by decide +kernel
theorem d355_1642 : decode cL_law 1642 = .ok (.aload_n 1, 1) := by decide +kernel
theorem d355_1643 : decode cL_law 1643 = .ok (.aload_n 0, 1) := by decide +kernel
theorem d355_1644 : decode cL_law 1644 = .ok (.iload 5, 2) := by decide +kernel
theorem d355_1646 : decode cL_law 1646 = .ok (.iconst 1, 1) := by decide +kernel
theorem d355_1647 : decode cL_law 1647 = .ok (.iadd, 1) := by decide +kernel
theorem d355_1648 : decode cL_law 1648 = .ok (.iaload, 1) := by decide +kernel
theorem d355_1649 : decode cL_law 1649 = .ok (.aload_n 3, 1) := by decide +kernel
theorem d355_1650 : decode cL_law 1650 = .ok (.invokestatic 256, 3) := by decide +kernel
theorem d355_1653 : decode cL_law 1653 = .ok (.istore 6, 2) := by decide +kernel
theorem d355_1655 : decode cL_law 1655 = .ok (.aload_n 2, 1) := by decide +kernel
theorem d355_1656 : decode cL_law 1656 = .ok (.aload_n 0, 1) := by decide +kernel
theorem d355_1657 : decode cL_law 1657 = .ok (.iload 5, 2) := by decide +kernel
theorem d355_1659 : decode cL_law 1659 = .ok (.iconst 1, 1) := by decide +kernel
theorem d355_1660 : decode cL_law 1660 = .ok (.iadd, 1) := by decide +kernel
theorem d355_1661 : decode cL_law 1661 = .ok (.iaload, 1) := by decide +kernel
theorem d355_1662 : decode cL_law 1662 = .ok (.invokevirtual 258, 3) := by decide +kernel
theorem d355_1665 : decode cL_law 1665 = .ok (.istore 7, 2) := by decide +kernel
theorem d355_1667 : decode cL_law 1667 = .ok (.aload_n 2, 1) := by decide +kernel
theorem d355_1668 : decode cL_law 1668 = .ok (.invokevirtual 194, 3) := by decide +kernel
theorem d355_1671 : decode cL_law 1671 = .ok (.iload 6, 2) := by decide +kernel
theorem d355_1673 : decode cL_law 1673 = .ok (.if_icmp .eq 5, 3) := by decide +kernel
theorem d355_1676 : decode cL_law 1676 = .ok (.iconst 0, 1) := by decide +kernel
theorem d355_1677 : decode cL_law 1677 = .ok (.ireturn, 1) := by decide +kernel
theorem d355_1678 : decode cL_law 1678 = .ok (.iload 6, 2) := by decide +kernel
theorem d355_1680 : decode cL_law 1680 = .ok (.ifCond .ne 15, 3) := by decide +kernel
theorem d355_1683 : decode cL_law 1683 = .ok (.aload_n 3, 1) := by decide +kernel
theorem d355_1684 : decode cL_law 1684 = .ok (.iconst 0, 1) := by decide +kernel
theorem d355_1685 : decode cL_law 1685 = .ok (.laload, 1) := by decide +kernel
theorem d355_1686 : decode cL_law 1686 = .ok (.iload 7, 2) := by decide +kernel
theorem d355_1688 : decode cL_law 1688 = .ok (.i2l, 1) := by decide +kernel
theorem d355_1689 : decode cL_law 1689 = .ok (.lcmp, 1) := by decide +kernel
theorem d355_1690 : decode cL_law 1690 = .ok (.ifCond .eq 5, 3) := by decide +kernel
theorem d355_1693 : decode cL_law 1693 = .ok (.iconst 0, 1) := by decide +kernel
theorem d355_1694 : decode cL_law 1694 = .ok (.ireturn, 1) := by decide +kernel
theorem d355_1695 : decode cL_law 1695 = .ok (.goto 1871, 3) := by decide +kernel
theorem d355_1698 : decode cL_law 1698 = .ok (.aload_n 1, 1) := by decide +kernel
theorem d355_1699 : decode cL_law 1699 = .ok (.aload_n 0, 1) := by decide +kernel
theorem d355_1700 : decode cL_law 1700 = .ok (.iload 5, 2) := by decide +kernel
theorem d355_1702 : decode cL_law 1702 = .ok (.iconst 1, 1) := by decide +kernel
theorem d355_1703 : decode cL_law 1703 = .ok (.iadd, 1) := by decide +kernel
theorem d355_1704 : decode cL_law 1704 = .ok (.iaload, 1) := by decide +kernel
theorem d355_1705 : decode cL_law 1705 = .ok (.aload_n 0, 1) := by decide +kernel
theorem d355_1706 : decode cL_law 1706 = .ok (.iload 5, 2) := by decide +kernel
theorem d355_1708 : decode cL_law 1708 = .ok (.iconst 2, 1) := by decide +kernel
theorem d355_1709 : decode cL_law 1709 = .ok (.iadd, 1) := by decide +kernel
theorem d355_1710 : decode cL_law 1710 = .ok (.iaload, 1) := by decide +kernel
theorem d355_1711 : decode cL_law 1711 = .ok (.aload_n 3, 1) := by decide +kernel
theorem d355_1712 : decode cL_law 1712 = .ok (.invokestatic 259, 3) := by decide +kernel
theorem d355_1715 : decode cL_law 1715 = .ok (.istore 6, 2) := by decide +kernel
theorem d355_1717 : decode cL_law 1717 = .ok (.aload_n 2, 1) := by decide +kernel
theorem d355_1718 : decode cL_law 1718 = .ok (.aload_n 0, 1) := by decide +kernel
theorem d355_1719 : decode cL_law 1719 = .ok (.iload 5, 2) := by decide +kernel
theorem d355_1721 : decode cL_law 1721 = .ok (.iconst 1, 1) := by decide +kernel
theorem d355_1722 : decode cL_law 1722 = .ok (.iadd, 1) := by decide +kernel
theorem d355_1723 : decode cL_law 1723 = .ok (.iaload, 1) := by decide +kernel
theorem d355_1724 : decode cL_law 1724 = .ok (.aload_n 0, 1) := by decide +kernel
theorem d355_1725 : decode cL_law 1725 = .ok (.iload 5, 2) := by decide +kernel
theorem d355_1727 : decode cL_law 1727 = .ok (.iconst 2, 1) := by decide +kernel
theorem d355_1728 : decode cL_law 1728 = .ok (.iadd, 1) := by decide +kernel
theorem d355_1729 : decode cL_law 1729 = .ok (.iaload, 1) := by decide +kernel
theorem d355_1730 : decode cL_law 1730 = .ok (.invokevirtual 261, 3) := by decide +kernel
theorem d355_1733 : decode cL_law 1733 = .ok (.istore 7, 2) := by decide +kernel
theorem d355_1735 : decode cL_law 1735 = .ok (.aload_n 2, 1) := by decide +kernel
theorem d355_1736 : decode cL_law 1736 = .ok (.invokevirtual 194, 3) := by decide +kernel
theorem d355_1739 : decode cL_law 1739 = .ok (.iload 6, 2) := by decide +kernel
theorem d355_1741 : decode cL_law 1741 = .ok (.if_icmp .eq 5, 3) := by decide +kernel
theorem d355_1744 : decode cL_law 1744 = .ok (.iconst 0, 1) := by decide +kernel
theorem d355_1745 : decode cL_law 1745 = .ok (.ireturn, 1) := by decide +kernel
theorem d355_1746 : decode cL_law 1746 = .ok (.iload 6, 2) := by decide +kernel
theorem d355_1748 : decode cL_law 1748 = .ok (.ifCond .ne 15, 3) := by decide +kernel
theorem d355_1751 : decode cL_law 1751 = .ok (.aload_n 3, 1) := by decide +kernel
theorem d355_1752 : decode cL_law 1752 = .ok (.iconst 0, 1) := by decide +kernel
theorem d355_1753 : decode cL_law 1753 = .ok (.laload, 1) := by decide +kernel
theorem d355_1754 : decode cL_law 1754 = .ok (.iload 7, 2) := by decide +kernel
theorem d355_1756 : decode cL_law 1756 = .ok (.i2l, 1) := by decide +kernel
theorem d355_1757 : decode cL_law 1757 = .ok (.lcmp, 1) := by decide +kernel
theorem d355_1758 : decode cL_law 1758 = .ok (.ifCond .eq 5, 3) := by decide +kernel
theorem d355_1761 : decode cL_law 1761 = .ok (.iconst 0, 1) := by decide +kernel
theorem d355_1762 : decode cL_law 1762 = .ok (.ireturn, 1) := by decide +kernel
theorem d355_1763 : decode cL_law 1763 = .ok (.goto 1803, 3) := by decide +kernel
theorem d355_1766 : decode cL_law 1766 = .ok (.aload_n 1, 1) := by decide +kernel
theorem d355_1767 : decode cL_law 1767 = .ok (.aload_n 0, 1) := by decide +kernel
theorem d355_1768 : decode cL_law 1768 = .ok (.iload 5, 2) := by decide +kernel
theorem d355_1770 : decode cL_law 1770 = .ok (.iconst 1, 1) := by decide +kernel
theorem d355_1771 : decode cL_law 1771 = .ok (.iadd, 1) := by decide +kernel
theorem d355_1772 : decode cL_law 1772 = .ok (.iaload, 1) := by decide +kernel
theorem d355_1773 : decode cL_law 1773 = .ok (.aload_n 3, 1) := by decide +kernel
theorem d355_1774 : decode cL_law 1774 = .ok (.invokestatic 262, 3) := by decide +kernel
theorem d355_1777 : decode cL_law 1777 = .ok (.istore 6, 2) := by decide +kernel
theorem d355_1779 : decode cL_law 1779 = .ok (.aload_n 2, 1) := by decide +kernel
theorem d355_1780 : decode cL_law 1780 = .ok (.aload_n 0, 1) := by decide +kernel
theorem d355_1781 : decode cL_law 1781 = .ok (.iload 5, 2) := by decide +kernel
theorem d355_1783 : decode cL_law 1783 = .ok (.iconst 1, 1) := by decide +kernel
theorem d355_1784 : decode cL_law 1784 = .ok (.iadd, 1) := by decide +kernel
theorem d355_1785 : decode cL_law 1785 = .ok (.iaload, 1) := by decide +kernel
theorem d355_1786 : decode cL_law 1786 = .ok (.invokevirtual 264, 3) := by decide +kernel
theorem d355_1789 : decode cL_law 1789 = .ok (.istore 7, 2) := by decide +kernel
theorem d355_1791 : decode cL_law 1791 = .ok (.aload_n 2, 1) := by decide +kernel
theorem d355_1792 : decode cL_law 1792 = .ok (.invokevirtual 194, 3) := by decide +kernel
theorem d355_1795 : decode cL_law 1795 = .ok (.iload 6, 2) := by decide +kernel
theorem d355_1797 : decode cL_law 1797 = .ok (.if_icmp .eq 5, 3) := by decide +kernel
theorem d355_1800 : decode cL_law 1800 = .ok (.iconst 0, 1) := by decide +kernel
theorem d355_1801 : decode cL_law 1801 = .ok (.ireturn, 1) := by decide +kernel
theorem d355_1802 : decode cL_law 1802 = .ok (.iload 6, 2) := by decide +kernel
theorem d355_1804 : decode cL_law 1804 = .ok (.ifCond .ne 15, 3) := by decide +kernel
theorem d355_1807 : decode cL_law 1807 = .ok (.aload_n 3, 1) := by decide +kernel
theorem d355_1808 : decode cL_law 1808 = .ok (.iconst 0, 1) := by decide +kernel
theorem d355_1809 : decode cL_law 1809 = .ok (.laload, 1) := by decide +kernel
theorem d355_1810 : decode cL_law 1810 = .ok (.iload 7, 2) := by decide +kernel
theorem d355_1812 : decode cL_law 1812 = .ok (.i2l, 1) := by decide +kernel
theorem d355_1813 : decode cL_law 1813 = .ok (.lcmp, 1) := by decide +kernel
theorem d355_1814 : decode cL_law 1814 = .ok (.ifCond .eq 5, 3) := by decide +kernel
theorem d355_1817 : decode cL_law 1817 = .ok (.iconst 0, 1) := by decide +kernel
theorem d355_1818 : decode cL_law 1818 = .ok (.ireturn, 1) := by decide +kernel
theorem d355_1819 : decode cL_law 1819 = .ok (.goto 1747, 3) := by decide +kernel
theorem d355_1822 : decode cL_law 1822 = .ok (.aload_n 1, 1) := by decide +kernel
theorem d355_1823 : decode cL_law 1823 = .ok (.aload_n 0, 1) := by decide +kernel
theorem d355_1824 : decode cL_law 1824 = .ok (.iload 5, 2) := by decide +kernel
theorem d355_1826 : decode cL_law 1826 = .ok (.iconst 1, 1) := by decide +kernel
theorem d355_1827 : decode cL_law 1827 = .ok (.iadd, 1) := by decide +kernel
theorem d355_1828 : decode cL_law 1828 = .ok (.iaload, 1) := by decide +kernel
theorem d355_1829 : decode cL_law 1829 = .ok (.aload_n 0, 1) := by decide +kernel
theorem d355_1830 : decode cL_law 1830 = .ok (.iload 5, 2) := by decide +kernel
theorem d355_1832 : decode cL_law 1832 = .ok (.iconst 2, 1) := by decide +kernel
theorem d355_1833 : decode cL_law 1833 = .ok (.iadd, 1) := by decide +kernel
theorem d355_1834 : decode cL_law 1834 = .ok (.iaload, 1) := by decide +kernel
theorem d355_1835 : decode cL_law 1835 = .ok (.aload_n 0, 1) := by decide +kernel
theorem d355_1836 : decode cL_law 1836 = .ok (.iload 5, 2) := by decide +kernel
theorem d355_1838 : decode cL_law 1838 = .ok (.iconst 3, 1) := by decide +kernel
theorem d355_1839 : decode cL_law 1839 = .ok (.iadd, 1) := by decide +kernel
theorem d355_1840 : decode cL_law 1840 = .ok (.iaload, 1) := by decide +kernel
theorem d355_1841 : decode cL_law 1841 = .ok (.aload_n 3, 1) := by decide +kernel
theorem d355_1842 : decode cL_law 1842 = .ok (.invokestatic 265, 3) := by decide +kernel
theorem d355_1845 : decode cL_law 1845 = .ok (.istore 6, 2) := by decide +kernel
theorem d355_1847 : decode cL_law 1847 = .ok (.aload_n 2, 1) := by decide +kernel
theorem d355_1848 : decode cL_law 1848 = .ok (.aload_n 0, 1) := by decide +kernel
theorem d355_1849 : decode cL_law 1849 = .ok (.iload 5, 2) := by decide +kernel
theorem d355_1851 : decode cL_law 1851 = .ok (.iconst 1, 1) := by decide +kernel
theorem d355_1852 : decode cL_law 1852 = .ok (.iadd, 1) := by decide +kernel
theorem d355_1853 : decode cL_law 1853 = .ok (.iaload, 1) := by decide +kernel
theorem d355_1854 : decode cL_law 1854 = .ok (.aload_n 0, 1) := by decide +kernel
theorem d355_1855 : decode cL_law 1855 = .ok (.iload 5, 2) := by decide +kernel
theorem d355_1857 : decode cL_law 1857 = .ok (.iconst 2, 1) := by decide +kernel
theorem d355_1858 : decode cL_law 1858 = .ok (.iadd, 1) := by decide +kernel
theorem d355_1859 : decode cL_law 1859 = .ok (.iaload, 1) := by decide +kernel
theorem d355_1860 : decode cL_law 1860 = .ok (.aload_n 0, 1) := by decide +kernel
theorem d355_1861 : decode cL_law 1861 = .ok (.iload 5, 2) := by decide +kernel
theorem d355_1863 : decode cL_law 1863 = .ok (.iconst 3, 1) := by decide +kernel
theorem d355_1864 : decode cL_law 1864 = .ok (.iadd, 1) := by decide +kernel
theorem d355_1865 : decode cL_law 1865 = .ok (.iaload, 1) := by decide +kernel
theorem d355_1866 : decode cL_law 1866 = .ok (.invokevirtual 267, 3) := by decide +kernel
theorem d355_1869 : decode cL_law 1869 = .ok (.istore 7, 2) := by decide +kernel
theorem d355_1871 : decode cL_law 1871 = .ok (.aload_n 2, 1) := by decide +kernel
theorem d355_1872 : decode cL_law 1872 = .ok (.invokevirtual 194, 3) := by decide +kernel
theorem d355_1875 : decode cL_law 1875 = .ok (.iload 6, 2) := by decide +kernel
theorem d355_1877 : decode cL_law 1877 = .ok (.if_icmp .eq 5, 3) := by decide +kernel
theorem d355_1880 : decode cL_law 1880 = .ok (.iconst 0, 1) := by decide +kernel
theorem d355_1881 : decode cL_law 1881 = .ok (.ireturn, 1) := by decide +kernel
theorem d355_1882 : decode cL_law 1882 = .ok (.iload 6, 2) := by decide +kernel
theorem d355_1884 : decode cL_law 1884 = .ok (.ifCond .ne 15, 3) := by decide +kernel
theorem d355_1887 : decode cL_law 1887 = .ok (.aload_n 3, 1) := by decide +kernel
theorem d355_1888 : decode cL_law 1888 = .ok (.iconst 0, 1) := by decide +kernel
theorem d355_1889 : decode cL_law 1889 = .ok (.laload, 1) := by decide +kernel
theorem d355_1890 : decode cL_law 1890 = .ok (.iload 7, 2) := by decide +kernel
theorem d355_1892 : decode cL_law 1892 = .ok (.i2l, 1) := by decide +kernel
theorem d355_1893 : decode cL_law 1893 = .ok (.lcmp, 1) := by decide +kernel
theorem d355_1894 : decode cL_law 1894 = .ok (.ifCond .eq 5, 3) := by decide +kernel
theorem d355_1897 : decode cL_law 1897 = .ok (.iconst 0, 1) := by decide +kernel
theorem d355_1898 : decode cL_law 1898 = .ok (.ireturn, 1) := by decide +kernel
theorem d355_1899 : decode cL_law 1899 = .ok (.goto 1667, 3) := by decide +kernel
theorem d355_1902 : decode cL_law 1902 = .ok (.aload_n 1, 1) := by decide +kernel
theorem d355_1903 : decode cL_law 1903 = .ok (.aload_n 0, 1) := by decide +kernel
theorem d355_1904 : decode cL_law 1904 = .ok (.iload 5, 2) := by decide +kernel
theorem d355_1906 : decode cL_law 1906 = .ok (.iconst 1, 1) := by decide +kernel
theorem d355_1907 : decode cL_law 1907 = .ok (.iadd, 1) := by decide +kernel
theorem d355_1908 : decode cL_law 1908 = .ok (.iaload, 1) := by decide +kernel
theorem d355_1909 : decode cL_law 1909 = .ok (.aload_n 3, 1) := by decide +kernel
theorem d355_1910 : decode cL_law 1910 = .ok (.invokestatic 268, 3) := by decide +kernel
theorem d355_1913 : decode cL_law 1913 = .ok (.istore 6, 2) := by decide +kernel
theorem d355_1915 : decode cL_law 1915 = .ok (.aload_n 2, 1) := by decide +kernel
theorem d355_1916 : decode cL_law 1916 = .ok (.aload_n 0, 1) := by decide +kernel
theorem d355_1917 : decode cL_law 1917 = .ok (.iload 5, 2) := by decide +kernel
theorem d355_1919 : decode cL_law 1919 = .ok (.iconst 1, 1) := by decide +kernel
theorem d355_1920 : decode cL_law 1920 = .ok (.iadd, 1) := by decide +kernel
theorem d355_1921 : decode cL_law 1921 = .ok (.iaload, 1) := by decide +kernel
theorem d355_1922 : decode cL_law 1922 = .ok (.invokevirtual 270, 3) := by decide +kernel
theorem d355_1925 : decode cL_law 1925 = .ok (.istore 7, 2) := by decide +kernel
theorem d355_1927 : decode cL_law 1927 = .ok (.aload_n 2, 1) := by decide +kernel
theorem d355_1928 : decode cL_law 1928 = .ok (.invokevirtual 194, 3) := by decide +kernel
theorem d355_1931 : decode cL_law 1931 = .ok (.iload 6, 2) := by decide +kernel
theorem d355_1933 : decode cL_law 1933 = .ok (.if_icmp .eq 5, 3) := by decide +kernel
theorem d355_1936 : decode cL_law 1936 = .ok (.iconst 0, 1) := by decide +kernel
theorem d355_1937 : decode cL_law 1937 = .ok (.ireturn, 1) := by decide +kernel
theorem d355_1938 : decode cL_law 1938 = .ok (.iload 6, 2) := by decide +kernel
theorem d355_1940 : decode cL_law 1940 = .ok (.ifCond .ne 15, 3) := by decide +kernel
theorem d355_1943 : decode cL_law 1943 = .ok (.aload_n 3, 1) := by decide +kernel
theorem d355_1944 : decode cL_law 1944 = .ok (.iconst 0, 1) := by decide +kernel
theorem d355_1945 : decode cL_law 1945 = .ok (.laload, 1) := by decide +kernel
theorem d355_1946 : decode cL_law 1946 = .ok (.iload 7, 2) := by decide +kernel
theorem d355_1948 : decode cL_law 1948 = .ok (.i2l, 1) := by decide +kernel
theorem d355_1949 : decode cL_law 1949 = .ok (.lcmp, 1) := by decide +kernel
theorem d355_1950 : decode cL_law 1950 = .ok (.ifCond .eq 5, 3) := by decide +kernel
theorem d355_1953 : decode cL_law 1953 = .ok (.iconst 0, 1) := by decide +kernel
theorem d355_1954 : decode cL_law 1954 = .ok (.ireturn, 1) := by decide +kernel
theorem d355_1955 : decode cL_law 1955 = .ok (.goto 1611, 3) := by decide +kernel
theorem d355_1958 : decode cL_law 1958 = .ok (.aload_n 1, 1) := by decide +kernel
theorem d355_1959 : decode cL_law 1959 = .ok (.aload_n 0, 1) := by decide +kernel
theorem d355_1960 : decode cL_law 1960 = .ok (.iload 5, 2) := by decide +kernel
theorem d355_1962 : decode cL_law 1962 = .ok (.iconst 1, 1) := by decide +kernel
theorem d355_1963 : decode cL_law 1963 = .ok (.iadd, 1) := by decide +kernel
theorem d355_1964 : decode cL_law 1964 = .ok (.iaload, 1) := by decide +kernel
theorem d355_1965 : decode cL_law 1965 = .ok (.aload_n 0, 1) := by decide +kernel
theorem d355_1966 : decode cL_law 1966 = .ok (.iload 5, 2) := by decide +kernel
theorem d355_1968 : decode cL_law 1968 = .ok (.iconst 2, 1) := by decide +kernel
theorem d355_1969 : decode cL_law 1969 = .ok (.iadd, 1) := by decide +kernel
theorem d355_1970 : decode cL_law 1970 = .ok (.iaload, 1) := by decide +kernel
theorem d355_1971 : decode cL_law 1971 = .ok (.aload_n 3, 1) := by decide +kernel
theorem d355_1972 : decode cL_law 1972 = .ok (.invokestatic 271, 3) := by decide +kernel
theorem d355_1975 : decode cL_law 1975 = .ok (.istore 6, 2) := by decide +kernel
theorem d355_1977 : decode cL_law 1977 = .ok (.aload_n 2, 1) := by decide +kernel
theorem d355_1978 : decode cL_law 1978 = .ok (.aload_n 0, 1) := by decide +kernel
theorem d355_1979 : decode cL_law 1979 = .ok (.iload 5, 2) := by decide +kernel
theorem d355_1981 : decode cL_law 1981 = .ok (.iconst 1, 1) := by decide +kernel
theorem d355_1982 : decode cL_law 1982 = .ok (.iadd, 1) := by decide +kernel
theorem d355_1983 : decode cL_law 1983 = .ok (.iaload, 1) := by decide +kernel
theorem d355_1984 : decode cL_law 1984 = .ok (.aload_n 0, 1) := by decide +kernel
theorem d355_1985 : decode cL_law 1985 = .ok (.iload 5, 2) := by decide +kernel
theorem d355_1987 : decode cL_law 1987 = .ok (.iconst 2, 1) := by decide +kernel
theorem d355_1988 : decode cL_law 1988 = .ok (.iadd, 1) := by decide +kernel
theorem d355_1989 : decode cL_law 1989 = .ok (.iaload, 1) := by decide +kernel
theorem d355_1990 : decode cL_law 1990 = .ok (.invokevirtual 273, 3) := by decide +kernel
theorem d355_1993 : decode cL_law 1993 = .ok (.istore 7, 2) := by decide +kernel
theorem d355_1995 : decode cL_law 1995 = .ok (.aload_n 2, 1) := by decide +kernel
theorem d355_1996 : decode cL_law 1996 = .ok (.invokevirtual 194, 3) := by decide +kernel
theorem d355_1999 : decode cL_law 1999 = .ok (.iload 6, 2) := by decide +kernel
theorem d355_2001 : decode cL_law 2001 = .ok (.if_icmp .eq 5, 3) := by decide +kernel
theorem d355_2004 : decode cL_law 2004 = .ok (.iconst 0, 1) := by decide +kernel
theorem d355_2005 : decode cL_law 2005 = .ok (.ireturn, 1) := by decide +kernel
theorem d355_2006 : decode cL_law 2006 = .ok (.iload 6, 2) := by decide +kernel
theorem d355_2008 : decode cL_law 2008 = .ok (.ifCond .ne 15, 3) := by decide +kernel
theorem d355_2011 : decode cL_law 2011 = .ok (.aload_n 3, 1) := by decide +kernel
theorem d355_2012 : decode cL_law 2012 = .ok (.iconst 0, 1) := by decide +kernel
theorem d355_2013 : decode cL_law 2013 = .ok (.laload, 1) := by decide +kernel
theorem d355_2014 : decode cL_law 2014 = .ok (.iload 7, 2) := by decide +kernel
theorem d355_2016 : decode cL_law 2016 = .ok (.i2l, 1) := by decide +kernel
theorem d355_2017 : decode cL_law 2017 = .ok (.lcmp, 1) := by decide +kernel
theorem d355_2018 : decode cL_law 2018 = .ok (.ifCond .eq 5, 3) := by decide +kernel
theorem d355_2021 : decode cL_law 2021 = .ok (.iconst 0, 1) := by decide +kernel
theorem d355_2022 : decode cL_law 2022 = .ok (.ireturn, 1) := by decide +kernel
theorem d355_2023 : decode cL_law 2023 = .ok (.goto 1543, 3) := by decide +kernel
theorem d355_2026 : decode cL_law 2026 = .ok (.aload_n 1, 1) := by decide +kernel
theorem d355_2027 : decode cL_law 2027 = .ok (.aload_n 0, 1) := by decide +kernel
theorem d355_2028 : decode cL_law 2028 = .ok (.iload 5, 2) := by decide +kernel
theorem d355_2030 : decode cL_law 2030 = .ok (.iconst 1, 1) := by decide +kernel
theorem d355_2031 : decode cL_law 2031 = .ok (.iadd, 1) := by decide +kernel
theorem d355_2032 : decode cL_law 2032 = .ok (.iaload, 1) := by decide +kernel
theorem d355_2033 : decode cL_law 2033 = .ok (.aload_n 3, 1) := by decide +kernel
theorem d355_2034 : decode cL_law 2034 = .ok (.invokestatic 274, 3) := by decide +kernel
theorem d355_2037 : decode cL_law 2037 = .ok (.istore 6, 2) := by decide +kernel
theorem d355_2039 : decode cL_law 2039 = .ok (.aload_n 2, 1) := by decide +kernel
theorem d355_2040 : decode cL_law 2040 = .ok (.aload_n 0, 1) := by decide +kernel
theorem d355_2041 : decode cL_law 2041 = .ok (.iload 5, 2) := by decide +kernel
theorem d355_2043 : decode cL_law 2043 = .ok (.iconst 1, 1) := by decide +kernel
theorem d355_2044 : decode cL_law 2044 = .ok (.iadd, 1) := by decide +kernel
theorem d355_2045 : decode cL_law 2045 = .ok (.iaload, 1) := by decide +kernel
theorem d355_2046 : decode cL_law 2046 = .ok (.invokevirtual 276, 3) := by decide +kernel
theorem d355_2049 : decode cL_law 2049 = .ok (.istore 7, 2) := by decide +kernel
theorem d355_2051 : decode cL_law 2051 = .ok (.aload_n 2, 1) := by decide +kernel
theorem d355_2052 : decode cL_law 2052 = .ok (.invokevirtual 194, 3) := by decide +kernel
theorem d355_2055 : decode cL_law 2055 = .ok (.iload 6, 2) := by decide +kernel
theorem d355_2057 : decode cL_law 2057 = .ok (.if_icmp .eq 5, 3) := by decide +kernel
theorem d355_2060 : decode cL_law 2060 = .ok (.iconst 0, 1) := by decide +kernel
theorem d355_2061 : decode cL_law 2061 = .ok (.ireturn, 1) := by decide +kernel
theorem d355_2062 : decode cL_law 2062 = .ok (.iload 6, 2) := by decide +kernel
theorem d355_2064 : decode cL_law 2064 = .ok (.ifCond .ne 15, 3) := by decide +kernel
theorem d355_2067 : decode cL_law 2067 = .ok (.aload_n 3, 1) := by decide +kernel
theorem d355_2068 : decode cL_law 2068 = .ok (.iconst 0, 1) := by decide +kernel
theorem d355_2069 : decode cL_law 2069 = .ok (.laload, 1) := by decide +kernel
theorem d355_2070 : decode cL_law 2070 = .ok (.iload 7, 2) := by decide +kernel
theorem d355_2072 : decode cL_law 2072 = .ok (.i2l, 1) := by decide +kernel
theorem d355_2073 : decode cL_law 2073 = .ok (.lcmp, 1) := by decide +kernel
theorem d355_2074 : decode cL_law 2074 = .ok (.ifCond .eq 5, 3) := by decide +kernel
theorem d355_2077 : decode cL_law 2077 = .ok (.iconst 0, 1) := by decide +kernel
theorem d355_2078 : decode cL_law 2078 = .ok (.ireturn, 1) := by decide +kernel
theorem d355_2079 : decode cL_law 2079 = .ok (.goto 1487, 3) := by decide +kernel
theorem d355_2082 : decode cL_law 2082 = .ok (.aload_n 1, 1) := by decide +kernel
theorem d355_2083 : decode cL_law 2083 = .ok (.aload_n 0, 1) := by decide +kernel
theorem d355_2084 : decode cL_law 2084 = .ok (.iload 5, 2) := by decide +kernel
theorem d355_2086 : decode cL_law 2086 = .ok (.iconst 1, 1) := by decide +kernel
theorem d355_2087 : decode cL_law 2087 = .ok (.iadd, 1) := by decide +kernel
theorem d355_2088 : decode cL_law 2088 = .ok (.iaload, 1) := by decide +kernel
theorem d355_2089 : decode cL_law 2089 = .ok (.aload_n 3, 1) := by decide +kernel
theorem d355_2090 : decode cL_law 2090 = .ok (.invokestatic 277, 3) := by decide +kernel
theorem d355_2093 : decode cL_law 2093 = .ok (.istore 6, 2) := by decide +kernel
theorem d355_2095 : decode cL_law 2095 = .ok (.aload_n 2, 1) := by decide +kernel
theorem d355_2096 : decode cL_law 2096 = .ok (.aload_n 0, 1) := by decide +kernel
theorem d355_2097 : decode cL_law 2097 = .ok (.iload 5, 2) := by decide +kernel
theorem d355_2099 : decode cL_law 2099 = .ok (.iconst 1, 1) := by decide +kernel
theorem d355_2100 : decode cL_law 2100 = .ok (.iadd, 1) := by decide +kernel
theorem d355_2101 : decode cL_law 2101 = .ok (.iaload, 1) := by decide +kernel
theorem d355_2102 : decode cL_law 2102 = .ok (.invokevirtual 279, 3) := by decide +kernel
theorem d355_2105 : decode cL_law 2105 = .ok (.istore 7, 2) := by decide +kernel
theorem d355_2107 : decode cL_law 2107 = .ok (.aload_n 2, 1) := by decide +kernel
theorem d355_2108 : decode cL_law 2108 = .ok (.invokevirtual 194, 3) := by decide +kernel
theorem d355_2111 : decode cL_law 2111 = .ok (.iload 6, 2) := by decide +kernel
theorem d355_2113 : decode cL_law 2113 = .ok (.if_icmp .eq 5, 3) := by decide +kernel
theorem d355_2116 : decode cL_law 2116 = .ok (.iconst 0, 1) := by decide +kernel
theorem d355_2117 : decode cL_law 2117 = .ok (.ireturn, 1) := by decide +kernel
theorem d355_2118 : decode cL_law 2118 = .ok (.iload 6, 2) := by decide +kernel
theorem d355_2120 : decode cL_law 2120 = .ok (.ifCond .ne 15, 3) := by decide +kernel
theorem d355_2123 : decode cL_law 2123 = .ok (.aload_n 3, 1) := by decide +kernel
theorem d355_2124 : decode cL_law 2124 = .ok (.iconst 0, 1) := by decide +kernel
theorem d355_2125 : decode cL_law 2125 = .ok (.laload, 1) := by decide +kernel
theorem d355_2126 : decode cL_law 2126 = .ok (.iload 7, 2) := by decide +kernel
theorem d355_2128 : decode cL_law 2128 = .ok (.i2l, 1) := by decide +kernel
theorem d355_2129 : decode cL_law 2129 = .ok (.lcmp, 1) := by decide +kernel
theorem d355_2130 : decode cL_law 2130 = .ok (.ifCond .eq 5, 3) := by decide +kernel
theorem d355_2133 : decode cL_law 2133 = .ok (.iconst 0, 1) := by decide +kernel
theorem d355_2134 : decode cL_law 2134 = .ok (.ireturn, 1) := by decide +kernel
theorem d355_2135 : decode cL_law 2135 = .ok (.goto 1431, 3) := by decide +kernel
theorem d355_2138 : decode cL_law 2138 = .ok (.aload_n 1, 1) := by decide +kernel
theorem d355_2139 : decode cL_law 2139 = .ok (.invokevirtual 280, 3) := by decide +kernel
theorem d355_2142 : decode cL_law 2142 = .ok (.aload_n 2, 1) := by decide +kernel
theorem d355_2143 : decode cL_law 2143 = .ok (.invokevirtual 283, 3) := by decide +kernel
theorem d355_2146 : decode cL_law 2146 = .ok (.if_icmp .eq 1420, 3) := by decide +kernel
theorem d355_2149 : decode cL_law 2149 = .ok (.iconst 0, 1) := by decide +kernel
theorem d355_2150 : decode cL_law 2150 = .ok (.ireturn, 1) := by decide +kernel
theorem d355_2151 : decode cL_law 2151 = .ok (.aload_n 1, 1) := by decide +kernel
theorem d355_2152 : decode cL_law 2152 = .ok (.invokevirtual 284, 3) := by decide +kernel
theorem d355_2155 : decode cL_law 2155 = .ok (.aload_n 2, 1) := by decide +kernel
theorem d355_2156 : decode cL_law 2156 = .ok (.invokevirtual 287, 3) := by decide +kernel
theorem d355_2159 : decode cL_law 2159 = .ok (.if_icmp .eq 1407, 3) := by decide +kernel
theorem d355_2162 : decode cL_law 2162 = .ok (.iconst 0, 1) := by decide +kernel
theorem d355_2163 : decode cL_law 2163 = .ok (.ireturn, 1) := by decide +kernel
theorem d355_2164 : decode cL_law 2164 = .ok (.aload_n 1, 1) := by decide +kernel
theorem d355_2165 : decode cL_law 2165 = .ok (.invokevirtual 288, 3) := by decide +kernel
theorem d355_2168 : decode cL_law 2168 = .ok (.aload_n 2, 1) := by decide +kernel
theorem d355_2169 : decode cL_law 2169 = .ok (.invokevirtual 291, 3) := by decide +kernel
theorem d355_2172 : decode cL_law 2172 = .ok (.if_icmp .eq 1394, 3) := by decide +kernel
theorem d355_2175 : decode cL_law 2175 = .ok (.iconst 0, 1) := by decide +kernel
theorem d355_2176 : decode cL_law 2176 = .ok (.ireturn, 1) := by decide +kernel
theorem d355_2177 : decode cL_law 2177 = .ok (.aload_n 1, 1) := by decide +kernel
theorem d355_2178 : decode cL_law 2178 = .ok (.aload_n 0, 1) := by decide +kernel
theorem d355_2179 : decode cL_law 2179 = .ok (.iload 5, 2) := by decide +kernel
theorem d355_2181 : decode cL_law 2181 = .ok (.iconst 1, 1) := by decide +kernel
theorem d355_2182 : decode cL_law 2182 = .ok (.iadd, 1) := by decide +kernel
theorem d355_2183 : decode cL_law 2183 = .ok (.iaload, 1) := by decide +kernel
theorem d355_2184 : decode cL_law 2184 = .ok (.aload_n 0, 1) := by decide +kernel
theorem d355_2185 : decode cL_law 2185 = .ok (.iload 5, 2) := by decide +kernel
theorem d355_2187 : decode cL_law 2187 = .ok (.iconst 2, 1) := by decide +kernel
theorem d355_2188 : decode cL_law 2188 = .ok (.iadd, 1) := by decide +kernel
theorem d355_2189 : decode cL_law 2189 = .ok (.iaload, 1) := by decide +kernel
theorem d355_2190 : decode cL_law 2190 = .ok (.aload_n 0, 1) := by decide +kernel
theorem d355_2191 : decode cL_law 2191 = .ok (.iload 5, 2) := by decide +kernel
theorem d355_2193 : decode cL_law 2193 = .ok (.iconst 3, 1) := by decide +kernel
theorem d355_2194 : decode cL_law 2194 = .ok (.iadd, 1) := by decide +kernel
theorem d355_2195 : decode cL_law 2195 = .ok (.iaload, 1) := by decide +kernel
theorem d355_2196 : decode cL_law 2196 = .ok (.aload_n 3, 1) := by decide +kernel
theorem d355_2197 : decode cL_law 2197 = .ok (.invokestatic 292, 3) := by decide +kernel
theorem d355_2200 : decode cL_law 2200 = .ok (.istore 6, 2) := by decide +kernel
theorem d355_2202 : decode cL_law 2202 = .ok (.aload_n 2, 1) := by decide +kernel
theorem d355_2203 : decode cL_law 2203 = .ok (.aload_n 0, 1) := by decide +kernel
theorem d355_2204 : decode cL_law 2204 = .ok (.iload 5, 2) := by decide +kernel
theorem d355_2206 : decode cL_law 2206 = .ok (.iconst 1, 1) := by decide +kernel
theorem d355_2207 : decode cL_law 2207 = .ok (.iadd, 1) := by decide +kernel
theorem d355_2208 : decode cL_law 2208 = .ok (.iaload, 1) := by decide +kernel
theorem d355_2209 : decode cL_law 2209 = .ok (.aload_n 0, 1) := by decide +kernel
theorem d355_2210 : decode cL_law 2210 = .ok (.iload 5, 2) := by decide +kernel
theorem d355_2212 : decode cL_law 2212 = .ok (.iconst 2, 1) := by decide +kernel
theorem d355_2213 : decode cL_law 2213 = .ok (.iadd, 1) := by decide +kernel
theorem d355_2214 : decode cL_law 2214 = .ok (.iaload, 1) := by decide +kernel
theorem d355_2215 : decode cL_law 2215 = .ok (.aload_n 0, 1) := by decide +kernel
theorem d355_2216 : decode cL_law 2216 = .ok (.iload 5, 2) := by decide +kernel
theorem d355_2218 : decode cL_law 2218 = .ok (.iconst 3, 1) := by decide +kernel
theorem d355_2219 : decode cL_law 2219 = .ok (.iadd, 1) := by decide +kernel
theorem d355_2220 : decode cL_law 2220 = .ok (.iaload, 1) := by decide +kernel
theorem d355_2221 : decode cL_law 2221 = .ok (.invokevirtual 294, 3) := by decide +kernel
theorem d355_2224 : decode cL_law 2224 = .ok (.istore 7, 2) := by decide +kernel
theorem d355_2226 : decode cL_law 2226 = .ok (.aload_n 2, 1) := by decide +kernel
theorem d355_2227 : decode cL_law 2227 = .ok (.invokevirtual 194, 3) := by decide +kernel
theorem d355_2230 : decode cL_law 2230 = .ok (.iload 6, 2) := by decide +kernel
theorem d355_2232 : decode cL_law 2232 = .ok (.if_icmp .eq 5, 3) := by decide +kernel
theorem d355_2235 : decode cL_law 2235 = .ok (.iconst 0, 1) := by decide +kernel
theorem d355_2236 : decode cL_law 2236 = .ok (.ireturn, 1) := by decide +kernel
theorem d355_2237 : decode cL_law 2237 = .ok (.iload 6, 2) := by decide +kernel
theorem d355_2239 : decode cL_law 2239 = .ok (.ifCond .ne 15, 3) := by decide +kernel
theorem d355_2242 : decode cL_law 2242 = .ok (.aload_n 3, 1) := by decide +kernel
theorem d355_2243 : decode cL_law 2243 = .ok (.iconst 0, 1) := by decide +kernel
theorem d355_2244 : decode cL_law 2244 = .ok (.laload, 1) := by decide +kernel
theorem d355_2245 : decode cL_law 2245 = .ok (.iload 7, 2) := by decide +kernel
theorem d355_2247 : decode cL_law 2247 = .ok (.i2l, 1) := by decide +kernel
theorem d355_2248 : decode cL_law 2248 = .ok (.lcmp, 1) := by decide +kernel
theorem d355_2249 : decode cL_law 2249 = .ok (.ifCond .eq 5, 3) := by decide +kernel
theorem d355_2252 : decode cL_law 2252 = .ok (.iconst 0, 1) := by decide +kernel
theorem d355_2253 : decode cL_law 2253 = .ok (.ireturn, 1) := by decide +kernel
theorem d355_2254 : decode cL_law 2254 = .ok (.goto 1312, 3) := by decide +kernel
theorem d355_2257 : decode cL_law 2257 = .ok (.aload_n 1, 1) := by decide +kernel
theorem d355_2258 : decode cL_law 2258 = .ok (.aload_n 0, 1) := by decide +kernel
theorem d355_2259 : decode cL_law 2259 = .ok (.iload 5, 2) := by decide +kernel
theorem d355_2261 : decode cL_law 2261 = .ok (.iconst 1, 1) := by decide +kernel
theorem d355_2262 : decode cL_law 2262 = .ok (.iadd, 1) := by decide +kernel
theorem d355_2263 : decode cL_law 2263 = .ok (.iaload, 1) := by decide +kernel
theorem d355_2264 : decode cL_law 2264 = .ok (.aload_n 3, 1) := by decide +kernel
theorem d355_2265 : decode cL_law 2265 = .ok (.invokestatic 295, 3) := by decide +kernel
theorem d355_2268 : decode cL_law 2268 = .ok (.istore 6, 2) := by decide +kernel
theorem d355_2270 : decode cL_law 2270 = .ok (.aload_n 2, 1) := by decide +kernel
theorem d355_2271 : decode cL_law 2271 = .ok (.aload_n 0, 1) := by decide +kernel
theorem d355_2272 : decode cL_law 2272 = .ok (.iload 5, 2) := by decide +kernel
theorem d355_2274 : decode cL_law 2274 = .ok (.iconst 1, 1) := by decide +kernel
theorem d355_2275 : decode cL_law 2275 = .ok (.iadd, 1) := by decide +kernel
theorem d355_2276 : decode cL_law 2276 = .ok (.iaload, 1) := by decide +kernel
theorem d355_2277 : decode cL_law 2277 = .ok (.invokevirtual 297, 3) := by decide +kernel
theorem d355_2280 : decode cL_law 2280 = .ok (.istore 7, 2) := by decide +kernel
theorem d355_2282 : decode cL_law 2282 = .ok (.aload_n 2, 1) := by decide +kernel
theorem d355_2283 : decode cL_law 2283 = .ok (.invokevirtual 194, 3) := by decide +kernel
theorem d355_2286 : decode cL_law 2286 = .ok (.iload 6, 2) := by decide +kernel
theorem d355_2288 : decode cL_law 2288 = .ok (.if_icmp .eq 5, 3) := by decide +kernel
theorem d355_2291 : decode cL_law 2291 = .ok (.iconst 0, 1) := by decide +kernel
theorem d355_2292 : decode cL_law 2292 = .ok (.ireturn, 1) := by decide +kernel
theorem d355_2293 : decode cL_law 2293 = .ok (.iload 6, 2) := by decide +kernel
theorem d355_2295 : decode cL_law 2295 = .ok (.ifCond .ne 15, 3) := by decide +kernel
theorem d355_2298 : decode cL_law 2298 = .ok (.aload_n 3, 1) := by decide +kernel
theorem d355_2299 : decode cL_law 2299 = .ok (.iconst 0, 1) := by decide +kernel
theorem d355_2300 : decode cL_law 2300 = .ok (.laload, 1) := by decide +kernel
theorem d355_2301 : decode cL_law 2301 = .ok (.iload 7, 2) := by decide +kernel
theorem d355_2303 : decode cL_law 2303 = .ok (.i2l, 1) := by decide +kernel
theorem d355_2304 : decode cL_law 2304 = .ok (.lcmp, 1) := by decide +kernel
theorem d355_2305 : decode cL_law 2305 = .ok (.ifCond .eq 5, 3) := by decide +kernel
theorem d355_2308 : decode cL_law 2308 = .ok (.iconst 0, 1) := by decide +kernel
theorem d355_2309 : decode cL_law 2309 = .ok (.ireturn, 1) := by decide +kernel
theorem d355_2310 : decode cL_law 2310 = .ok (.goto 1256, 3) := by decide +kernel
theorem d355_2313 : decode cL_law 2313 = .ok (.aload_n 1, 1) := by decide +kernel
theorem d355_2314 : decode cL_law 2314 = .ok (.aload_n 0, 1) := by decide +kernel
theorem d355_2315 : decode cL_law 2315 = .ok (.iload 5, 2) := by decide +kernel
theorem d355_2317 : decode cL_law 2317 = .ok (.iconst 1, 1) := by decide +kernel
theorem d355_2318 : decode cL_law 2318 = .ok (.iadd, 1) := by decide +kernel
theorem d355_2319 : decode cL_law 2319 = .ok (.iaload, 1) := by decide +kernel
theorem d355_2320 : decode cL_law 2320 = .ok (.aload_n 0, 1) := by decide +kernel
theorem d355_2321 : decode cL_law 2321 = .ok (.iload 5, 2) := by decide +kernel
theorem d355_2323 : decode cL_law 2323 = .ok (.iconst 2, 1) := by decide +kernel
theorem d355_2324 : decode cL_law 2324 = .ok (.iadd, 1) := by decide +kernel
theorem d355_2325 : decode cL_law 2325 = .ok (.iaload, 1) := by decide +kernel
theorem d355_2326 : decode cL_law 2326 = .ok (.aload_n 3, 1) := by decide +kernel
theorem d355_2327 : decode cL_law 2327 = .ok (.invokestatic 298, 3) := by decide +kernel
theorem d355_2330 : decode cL_law 2330 = .ok (.istore 6, 2) := by decide +kernel
theorem d355_2332 : decode cL_law 2332 = .ok (.aload_n 2, 1) := by decide +kernel
theorem d355_2333 : decode cL_law 2333 = .ok (.aload_n 0, 1) := by decide +kernel
theorem d355_2334 : decode cL_law 2334 = .ok (.iload 5, 2) := by decide +kernel
theorem d355_2336 : decode cL_law 2336 = .ok (.iconst 1, 1) := by decide +kernel
theorem d355_2337 : decode cL_law 2337 = .ok (.iadd, 1) := by decide +kernel
theorem d355_2338 : decode cL_law 2338 = .ok (.iaload, 1) := by decide +kernel
theorem d355_2339 : decode cL_law 2339 = .ok (.aload_n 0, 1) := by decide +kernel
theorem d355_2340 : decode cL_law 2340 = .ok (.iload 5, 2) := by decide +kernel
theorem d355_2342 : decode cL_law 2342 = .ok (.iconst 2, 1) := by decide +kernel
theorem d355_2343 : decode cL_law 2343 = .ok (.iadd, 1) := by decide +kernel
theorem d355_2344 : decode cL_law 2344 = .ok (.iaload, 1) := by decide +kernel
theorem d355_2345 : decode cL_law 2345 = .ok (.invokevirtual 300, 3) := by decide +kernel
theorem d355_2348 : decode cL_law 2348 = .ok (.istore 7, 2) := by decide +kernel
theorem d355_2350 : decode cL_law 2350 = .ok (.aload_n 2, 1) := by decide +kernel
theorem d355_2351 : decode cL_law 2351 = .ok (.invokevirtual 194, 3) := by decide +kernel
theorem d355_2354 : decode cL_law 2354 = .ok (.iload 6, 2) := by decide +kernel
theorem d355_2356 : decode cL_law 2356 = .ok (.if_icmp .eq 5, 3) := by decide +kernel
theorem d355_2359 : decode cL_law 2359 = .ok (.iconst 0, 1) := by decide +kernel
theorem d355_2360 : decode cL_law 2360 = .ok (.ireturn, 1) := by decide +kernel
theorem d355_2361 : decode cL_law 2361 = .ok (.iload 6, 2) := by decide +kernel
theorem d355_2363 : decode cL_law 2363 = .ok (.ifCond .ne 15, 3) := by decide +kernel
theorem d355_2366 : decode cL_law 2366 = .ok (.aload_n 3, 1) := by decide +kernel
theorem d355_2367 : decode cL_law 2367 = .ok (.iconst 0, 1) := by decide +kernel
theorem d355_2368 : decode cL_law 2368 = .ok (.laload, 1) := by decide +kernel
theorem d355_2369 : decode cL_law 2369 = .ok (.iload 7, 2) := by decide +kernel
theorem d355_2371 : decode cL_law 2371 = .ok (.i2l, 1) := by decide +kernel
theorem d355_2372 : decode cL_law 2372 = .ok (.lcmp, 1) := by decide +kernel
theorem d355_2373 : decode cL_law 2373 = .ok (.ifCond .eq 5, 3) := by decide +kernel
theorem d355_2376 : decode cL_law 2376 = .ok (.iconst 0, 1) := by decide +kernel
theorem d355_2377 : decode cL_law 2377 = .ok (.ireturn, 1) := by decide +kernel
theorem d355_2378 : decode cL_law 2378 = .ok (.goto 1188, 3) := by decide +kernel
theorem d355_2381 : decode cL_law 2381 = .ok (.aload_n 1, 1) := by decide +kernel
theorem d355_2382 : decode cL_law 2382 = .ok (.aload_n 0, 1) := by decide +kernel
theorem d355_2383 : decode cL_law 2383 = .ok (.iload 5, 2) := by decide +kernel
theorem d355_2385 : decode cL_law 2385 = .ok (.iconst 1, 1) := by decide +kernel
theorem d355_2386 : decode cL_law 2386 = .ok (.iadd, 1) := by decide +kernel
theorem d355_2387 : decode cL_law 2387 = .ok (.iaload, 1) := by decide +kernel
theorem d355_2388 : decode cL_law 2388 = .ok (.aload_n 0, 1) := by decide +kernel
theorem d355_2389 : decode cL_law 2389 = .ok (.iload 5, 2) := by decide +kernel
theorem d355_2391 : decode cL_law 2391 = .ok (.iconst 2, 1) := by decide +kernel
theorem d355_2392 : decode cL_law 2392 = .ok (.iadd, 1) := by decide +kernel
theorem d355_2393 : decode cL_law 2393 = .ok (.iaload, 1) := by decide +kernel
theorem d355_2394 : decode cL_law 2394 = .ok (.aload_n 3, 1) := by decide +kernel
theorem d355_2395 : decode cL_law 2395 = .ok (.invokestatic 301, 3) := by decide +kernel
theorem d355_2398 : decode cL_law 2398 = .ok (.istore 6, 2) := by decide +kernel
theorem d355_2400 : decode cL_law 2400 = .ok (.aload_n 2, 1) := by decide +kernel
theorem d355_2401 : decode cL_law 2401 = .ok (.aload_n 0, 1) := by decide +kernel
theorem d355_2402 : decode cL_law 2402 = .ok (.iload 5, 2) := by decide +kernel
theorem d355_2404 : decode cL_law 2404 = .ok (.iconst 1, 1) := by decide +kernel
theorem d355_2405 : decode cL_law 2405 = .ok (.iadd, 1) := by decide +kernel
theorem d355_2406 : decode cL_law 2406 = .ok (.iaload, 1) := by decide +kernel
theorem d355_2407 : decode cL_law 2407 = .ok (.aload_n 0, 1) := by decide +kernel
theorem d355_2408 : decode cL_law 2408 = .ok (.iload 5, 2) := by decide +kernel
theorem d355_2410 : decode cL_law 2410 = .ok (.iconst 2, 1) := by decide +kernel
theorem d355_2411 : decode cL_law 2411 = .ok (.iadd, 1) := by decide +kernel
theorem d355_2412 : decode cL_law 2412 = .ok (.iaload, 1) := by decide +kernel
theorem d355_2413 : decode cL_law 2413 = .ok (.invokevirtual 303, 3) := by decide +kernel
theorem d355_2416 : decode cL_law 2416 = .ok (.istore 7, 2) := by decide +kernel
theorem d355_2418 : decode cL_law 2418 = .ok (.aload_n 2, 1) := by decide +kernel
theorem d355_2419 : decode cL_law 2419 = .ok (.invokevirtual 194, 3) := by decide +kernel
theorem d355_2422 : decode cL_law 2422 = .ok (.iload 6, 2) := by decide +kernel
theorem d355_2424 : decode cL_law 2424 = .ok (.if_icmp .eq 5, 3) := by decide +kernel
theorem d355_2427 : decode cL_law 2427 = .ok (.iconst 0, 1) := by decide +kernel
theorem d355_2428 : decode cL_law 2428 = .ok (.ireturn, 1) := by decide +kernel
theorem d355_2429 : decode cL_law 2429 = .ok (.iload 6, 2) := by decide +kernel
theorem d355_2431 : decode cL_law 2431 = .ok (.ifCond .ne 15, 3) := by decide +kernel
theorem d355_2434 : decode cL_law 2434 = .ok (.aload_n 3, 1) := by decide +kernel
theorem d355_2435 : decode cL_law 2435 = .ok (.iconst 0, 1) := by decide +kernel
theorem d355_2436 : decode cL_law 2436 = .ok (.laload, 1) := by decide +kernel
theorem d355_2437 : decode cL_law 2437 = .ok (.iload 7, 2) := by decide +kernel
theorem d355_2439 : decode cL_law 2439 = .ok (.i2l, 1) := by decide +kernel
theorem d355_2440 : decode cL_law 2440 = .ok (.lcmp, 1) := by decide +kernel
theorem d355_2441 : decode cL_law 2441 = .ok (.ifCond .eq 5, 3) := by decide +kernel
theorem d355_2444 : decode cL_law 2444 = .ok (.iconst 0, 1) := by decide +kernel
theorem d355_2445 : decode cL_law 2445 = .ok (.ireturn, 1) := by decide +kernel
theorem d355_2446 : decode cL_law 2446 = .ok (.goto 1120, 3) := by decide +kernel
theorem d355_2449 : decode cL_law 2449 = .ok (.aload_n 1, 1) := by decide +kernel
theorem d355_2450 : decode cL_law 2450 = .ok (.aload_n 0, 1) := by decide +kernel
theorem d355_2451 : decode cL_law 2451 = .ok (.iload 5, 2) := by decide +kernel
theorem d355_2453 : decode cL_law 2453 = .ok (.iconst 1, 1) := by decide +kernel
theorem d355_2454 : decode cL_law 2454 = .ok (.iadd, 1) := by decide +kernel
theorem d355_2455 : decode cL_law 2455 = .ok (.iaload, 1) := by decide +kernel
theorem d355_2456 : decode cL_law 2456 = .ok (.aload_n 0, 1) := by decide +kernel
theorem d355_2457 : decode cL_law 2457 = .ok (.iload 5, 2) := by decide +kernel
theorem d355_2459 : decode cL_law 2459 = .ok (.iconst 2, 1) := by decide +kernel
theorem d355_2460 : decode cL_law 2460 = .ok (.iadd, 1) := by decide +kernel
theorem d355_2461 : decode cL_law 2461 = .ok (.iaload, 1) := by decide +kernel
theorem d355_2462 : decode cL_law 2462 = .ok (.aload_n 3, 1) := by decide +kernel
theorem d355_2463 : decode cL_law 2463 = .ok (.invokestatic 304, 3) := by decide +kernel
theorem d355_2466 : decode cL_law 2466 = .ok (.istore 6, 2) := by decide +kernel
theorem d355_2468 : decode cL_law 2468 = .ok (.aload_n 2, 1) := by decide +kernel
theorem d355_2469 : decode cL_law 2469 = .ok (.aload_n 0, 1) := by decide +kernel
theorem d355_2470 : decode cL_law 2470 = .ok (.iload 5, 2) := by decide +kernel
theorem d355_2472 : decode cL_law 2472 = .ok (.iconst 1, 1) := by decide +kernel
theorem d355_2473 : decode cL_law 2473 = .ok (.iadd, 1) := by decide +kernel
theorem d355_2474 : decode cL_law 2474 = .ok (.iaload, 1) := by decide +kernel
theorem d355_2475 : decode cL_law 2475 = .ok (.aload_n 0, 1) := by decide +kernel
theorem d355_2476 : decode cL_law 2476 = .ok (.iload 5, 2) := by decide +kernel
theorem d355_2478 : decode cL_law 2478 = .ok (.iconst 2, 1) := by decide +kernel
theorem d355_2479 : decode cL_law 2479 = .ok (.iadd, 1) := by decide +kernel
theorem d355_2480 : decode cL_law 2480 = .ok (.iaload, 1) := by decide +kernel
theorem d355_2481 : decode cL_law 2481 = .ok (.invokevirtual 306, 3) := by decide +kernel
theorem d355_2484 : decode cL_law 2484 = .ok (.istore 7, 2) := by decide +kernel
theorem d355_2486 : decode cL_law 2486 = .ok (.aload_n 2, 1) := by decide +kernel
theorem d355_2487 : decode cL_law 2487 = .ok (.invokevirtual 194, 3) := by decide +kernel
theorem d355_2490 : decode cL_law 2490 = .ok (.iload 6, 2) := by decide +kernel
theorem d355_2492 : decode cL_law 2492 = .ok (.if_icmp .eq 5, 3) := by decide +kernel
theorem d355_2495 : decode cL_law 2495 = .ok (.iconst 0, 1) := by decide +kernel
theorem d355_2496 : decode cL_law 2496 = .ok (.ireturn, 1) := by decide +kernel
theorem d355_2497 : decode cL_law 2497 = .ok (.iload 6, 2) := by decide +kernel
theorem d355_2499 : decode cL_law 2499 = .ok (.ifCond .ne 15, 3) := by decide +kernel
theorem d355_2502 : decode cL_law 2502 = .ok (.aload_n 3, 1) := by decide +kernel
theorem d355_2503 : decode cL_law 2503 = .ok (.iconst 0, 1) := by decide +kernel
theorem d355_2504 : decode cL_law 2504 = .ok (.laload, 1) := by decide +kernel
theorem d355_2505 : decode cL_law 2505 = .ok (.iload 7, 2) := by decide +kernel
theorem d355_2507 : decode cL_law 2507 = .ok (.i2l, 1) := by decide +kernel
theorem d355_2508 : decode cL_law 2508 = .ok (.lcmp, 1) := by decide +kernel
theorem d355_2509 : decode cL_law 2509 = .ok (.ifCond .eq 5, 3) := by decide +kernel
theorem d355_2512 : decode cL_law 2512 = .ok (.iconst 0, 1) := by decide +kernel
theorem d355_2513 : decode cL_law 2513 = .ok (.ireturn, 1) := by decide +kernel
theorem d355_2514 : decode cL_law 2514 = .ok (.goto 1052, 3) := by decide +kernel
theorem d355_2517 : decode cL_law 2517 = .ok (.aload_n 1, 1) := by decide +kernel
theorem d355_2518 : decode cL_law 2518 = .ok (.aload_n 0, 1) := by decide +kernel
theorem d355_2519 : decode cL_law 2519 = .ok (.iload 5, 2) := by decide +kernel
theorem d355_2521 : decode cL_law 2521 = .ok (.iconst 1, 1) := by decide +kernel
theorem d355_2522 : decode cL_law 2522 = .ok (.iadd, 1) := by decide +kernel
theorem d355_2523 : decode cL_law 2523 = .ok (.iaload, 1) := by decide +kernel
theorem d355_2524 : decode cL_law 2524 = .ok (.aload_n 0, 1) := by decide +kernel
theorem d355_2525 : decode cL_law 2525 = .ok (.iload 5, 2) := by decide +kernel
theorem d355_2527 : decode cL_law 2527 = .ok (.iconst 2, 1) := by decide +kernel
theorem d355_2528 : decode cL_law 2528 = .ok (.iadd, 1) := by decide +kernel
theorem d355_2529 : decode cL_law 2529 = .ok (.iaload, 1) := by decide +kernel
theorem d355_2530 : decode cL_law 2530 = .ok (.aload_n 0, 1) := by decide +kernel
theorem d355_2531 : decode cL_law 2531 = .ok (.iload 5, 2) := by decide +kernel
theorem d355_2533 : decode cL_law 2533 = .ok (.iconst 3, 1) := by decide +kernel
theorem d355_2534 : decode cL_law 2534 = .ok (.iadd, 1) := by decide +kernel
theorem d355_2535 : decode cL_law 2535 = .ok (.iaload, 1) := by decide +kernel
theorem d355_2536 : decode cL_law 2536 = .ok (.aload_n 0, 1) := by decide +kernel
theorem d355_2537 : decode cL_law 2537 = .ok (.iload 5, 2) := by decide +kernel
theorem d355_2539 : decode cL_law 2539 = .ok (.iconst 4, 1) := by decide +kernel
theorem d355_2540 : decode cL_law 2540 = .ok (.iadd, 1) := by decide +kernel
theorem d355_2541 : decode cL_law 2541 = .ok (.iaload, 1) := by decide +kernel
theorem d355_2542 : decode cL_law 2542 = .ok (.ifCond .eq 7, 3) := by decide +kernel
theorem d355_2545 : decode cL_law 2545 = .ok (.iconst 1, 1) := by decide +kernel
theorem d355_2546 : decode cL_law 2546 = .ok (.goto 4, 3) := by decide +kernel
theorem d355_2549 : decode cL_law 2549 = .ok (.iconst 0, 1) := by decide +kernel
theorem d355_2550 : decode cL_law 2550 = .ok (.aload_n 3, 1) := by decide +kernel
theorem d355_2551 : decode cL_law 2551 = .ok (.invokestatic 307, 3) := by decide +kernel
theorem d355_2554 : decode cL_law 2554 = .ok (.istore 6, 2) := by decide +kernel
theorem d355_2556 : decode cL_law 2556 = .ok (.aload_n 2, 1) := by decide +kernel
theorem d355_2557 : decode cL_law 2557 = .ok (.aload_n 0, 1) := by decide +kernel
theorem d355_2558 : decode cL_law 2558 = .ok (.iload 5, 2) := by decide +kernel
theorem d355_2560 : decode cL_law 2560 = .ok (.iconst 1, 1) := by decide +kernel
theorem d355_2561 : decode cL_law 2561 = .ok (.iadd, 1) := by decide +kernel
theorem d355_2562 : decode cL_law 2562 = .ok (.iaload, 1) := by decide +kernel
theorem d355_2563 : decode cL_law 2563 = .ok (.aload_n 0, 1) := by decide +kernel
theorem d355_2564 : decode cL_law 2564 = .ok (.iload 5, 2) := by decide +kernel
theorem d355_2566 : decode cL_law 2566 = .ok (.iconst 2, 1) := by decide +kernel
theorem d355_2567 : decode cL_law 2567 = .ok (.iadd, 1) := by decide +kernel
theorem d355_2568 : decode cL_law 2568 = .ok (.iaload, 1) := by decide +kernel
theorem d355_2569 : decode cL_law 2569 = .ok (.aload_n 0, 1) := by decide +kernel
theorem d355_2570 : decode cL_law 2570 = .ok (.iload 5, 2) := by decide +kernel
theorem d355_2572 : decode cL_law 2572 = .ok (.iconst 3, 1) := by decide +kernel
theorem d355_2573 : decode cL_law 2573 = .ok (.iadd, 1) := by decide +kernel
theorem d355_2574 : decode cL_law 2574 = .ok (.iaload, 1) := by decide +kernel
theorem d355_2575 : decode cL_law 2575 = .ok (.aload_n 0, 1) := by decide +kernel
theorem d355_2576 : decode cL_law 2576 = .ok (.iload 5, 2) := by decide +kernel
theorem d355_2578 : decode cL_law 2578 = .ok (.iconst 4, 1) := by decide +kernel
theorem d355_2579 : decode cL_law 2579 = .ok (.iadd, 1) := by decide +kernel
theorem d355_2580 : decode cL_law 2580 = .ok (.iaload, 1) := by decide +kernel
theorem d355_2581 : decode cL_law 2581 = .ok (.ifCond .eq 7, 3) := by decide +kernel
theorem d355_2584 : decode cL_law 2584 = .ok (.iconst 1, 1) := by decide +kernel
theorem d355_2585 : decode cL_law 2585 = .ok (.goto 4, 3) := by decide +kernel
theorem d355_2588 : decode cL_law 2588 = .ok (.iconst 0, 1) := by decide +kernel
theorem d355_2589 : decode cL_law 2589 = .ok (.invokevirtual 310, 3) := by decide +kernel
theorem d355_2592 : decode cL_law 2592 = .ok (.istore 7, 2) := by decide +kernel
theorem d355_2594 : decode cL_law 2594 = .ok (.aload_n 2, 1) := by decide +kernel
theorem d355_2595 : decode cL_law 2595 = .ok (.invokevirtual 194, 3) := by decide +kernel
theorem d355_2598 : decode cL_law 2598 = .ok (.iload 6, 2) := by decide +kernel
theorem d355_2600 : decode cL_law 2600 = .ok (.if_icmp .eq 5, 3) := by decide +kernel
theorem d355_2603 : decode cL_law 2603 = .ok (.iconst 0, 1) := by decide +kernel
theorem d355_2604 : decode cL_law 2604 = .ok (.ireturn, 1) := by decide +kernel
theorem d355_2605 : decode cL_law 2605 = .ok (.iload 6, 2) := by decide +kernel
theorem d355_2607 : decode cL_law 2607 = .ok (.ifCond .ne 22, 3) := by decide +kernel
theorem d355_2610 : decode cL_law 2610 = .ok (.aload_n 3, 1) := by decide +kernel
theorem d355_2611 : decode cL_law 2611 = .ok (.iconst 0, 1) := by decide +kernel
theorem d355_2612 : decode cL_law 2612 = .ok (.laload, 1) := by decide +kernel
theorem d355_2613 : decode cL_law 2613 = .ok (.iload 7, 2) := by decide +kernel
theorem d355_2615 : decode cL_law 2615 = .ok (.ifCond .eq 7, 3) := by decide +kernel
theorem d355_2618 : decode cL_law 2618 = .ok (.lconst 1, 1) := by decide +kernel
theorem d355_2619 : decode cL_law 2619 = .ok (.goto 4, 3) := by decide +kernel
theorem d355_2622 : decode cL_law 2622 = .ok (.lconst 0, 1) := by decide +kernel
theorem d355_2623 : decode cL_law 2623 = .ok (.lcmp, 1) := by decide +kernel
theorem d355_2624 : decode cL_law 2624 = .ok (.ifCond .eq 5, 3) := by decide +kernel
theorem d355_2627 : decode cL_law 2627 = .ok (.iconst 0, 1) := by decide +kernel
theorem d355_2628 : decode cL_law 2628 = .ok (.ireturn, 1) := by decide +kernel
theorem d355_2629 : decode cL_law 2629 = .ok (.goto 937, 3) := by decide +kernel
theorem d355_2632 : decode cL_law 2632 = .ok (.aload_n 1, 1) := by decide +kernel
theorem d355_2633 : decode cL_law 2633 = .ok (.aload_n 0, 1) := by decide +kernel
theorem d355_2634 : decode cL_law 2634 = .ok (.iload 5, 2) := by decide +kernel
theorem d355_2636 : decode cL_law 2636 = .ok (.iconst 1, 1) := by decide +kernel
theorem d355_2637 : decode cL_law 2637 = .ok (.iadd, 1) := by decide +kernel
theorem d355_2638 : decode cL_law 2638 = .ok (.iaload, 1) := by decide +kernel
theorem d355_2639 : decode cL_law 2639 = .ok (.aload_n 3, 1) := by decide +kernel
theorem d355_2640 : decode cL_law 2640 = .ok (.invokestatic 311, 3) := by decide +kernel
theorem d355_2643 : decode cL_law 2643 = .ok (.istore 6, 2) := by decide +kernel
theorem d355_2645 : decode cL_law 2645 = .ok (.aload_n 2, 1) := by decide +kernel
theorem d355_2646 : decode cL_law 2646 = .ok (.aload_n 0, 1) := by decide +kernel
theorem d355_2647 : decode cL_law 2647 = .ok (.iload 5, 2) := by decide +kernel
theorem d355_2649 : decode cL_law 2649 = .ok (.iconst 1, 1) := by decide +kernel
theorem d355_2650 : decode cL_law 2650 = .ok (.iadd, 1) := by decide +kernel
theorem d355_2651 : decode cL_law 2651 = .ok (.iaload, 1) := by decide +kernel
theorem d355_2652 : decode cL_law 2652 = .ok (.invokevirtual 313, 3) := by decide +kernel
theorem d355_2655 : decode cL_law 2655 = .ok (.istore 7, 2) := by decide +kernel
theorem d355_2657 : decode cL_law 2657 = .ok (.aload_n 2, 1) := by decide +kernel
theorem d355_2658 : decode cL_law 2658 = .ok (.invokevirtual 194, 3) := by decide +kernel
theorem d355_2661 : decode cL_law 2661 = .ok (.iload 6, 2) := by decide +kernel
theorem d355_2663 : decode cL_law 2663 = .ok (.if_icmp .eq 5, 3) := by decide +kernel
theorem d355_2666 : decode cL_law 2666 = .ok (.iconst 0, 1) := by decide +kernel
theorem d355_2667 : decode cL_law 2667 = .ok (.ireturn, 1) := by decide +kernel
theorem d355_2668 : decode cL_law 2668 = .ok (.iload 6, 2) := by decide +kernel
theorem d355_2670 : decode cL_law 2670 = .ok (.ifCond .ne 15, 3) := by decide +kernel
theorem d355_2673 : decode cL_law 2673 = .ok (.aload_n 3, 1) := by decide +kernel
theorem d355_2674 : decode cL_law 2674 = .ok (.iconst 0, 1) := by decide +kernel
theorem d355_2675 : decode cL_law 2675 = .ok (.laload, 1) := by decide +kernel
theorem d355_2676 : decode cL_law 2676 = .ok (.iload 7, 2) := by decide +kernel
theorem d355_2678 : decode cL_law 2678 = .ok (.i2l, 1) := by decide +kernel
theorem d355_2679 : decode cL_law 2679 = .ok (.lcmp, 1) := by decide +kernel
theorem d355_2680 : decode cL_law 2680 = .ok (.ifCond .eq 5, 3) := by decide +kernel
theorem d355_2683 : decode cL_law 2683 = .ok (.iconst 0, 1) := by decide +kernel
theorem d355_2684 : decode cL_law 2684 = .ok (.ireturn, 1) := by decide +kernel
theorem d355_2685 : decode cL_law 2685 = .ok (.goto 881, 3) := by decide +kernel
theorem d355_2688 : decode cL_law 2688 = .ok (.aload_n 1, 1) := by decide +kernel
theorem d355_2689 : decode cL_law 2689 = .ok (.aload_n 0, 1) := by decide +kernel
theorem d355_2690 : decode cL_law 2690 = .ok (.iload 5, 2) := by decide +kernel
theorem d355_2692 : decode cL_law 2692 = .ok (.iconst 1, 1) := by decide +kernel
theorem d355_2693 : decode cL_law 2693 = .ok (.iadd, 1) := by decide +kernel
theorem d355_2694 : decode cL_law 2694 = .ok (.iaload, 1) := by decide +kernel
theorem d355_2695 : decode cL_law 2695 = .ok (.aload_n 3, 1) := by decide +kernel
theorem d355_2696 : decode cL_law 2696 = .ok (.invokestatic 314, 3) := by decide +kernel
theorem d355_2699 : decode cL_law 2699 = .ok (.istore 6, 2) := by decide +kernel
theorem d355_2701 : decode cL_law 2701 = .ok (.aload_n 2, 1) := by decide +kernel
theorem d355_2702 : decode cL_law 2702 = .ok (.aload_n 0, 1) := by decide +kernel
theorem d355_2703 : decode cL_law 2703 = .ok (.iload 5, 2) := by decide +kernel
theorem d355_2705 : decode cL_law 2705 = .ok (.iconst 1, 1) := by decide +kernel
theorem d355_2706 : decode cL_law 2706 = .ok (.iadd, 1) := by decide +kernel
theorem d355_2707 : decode cL_law 2707 = .ok (.iaload, 1) := by decide +kernel
theorem d355_2708 : decode cL_law 2708 = .ok (.invokevirtual 316, 3) := by decide +kernel
theorem d355_2711 : decode cL_law 2711 = .ok (.istore 7, 2) := by decide +kernel
theorem d355_2713 : decode cL_law 2713 = .ok (.aload_n 2, 1) := by decide +kernel
theorem d355_2714 : decode cL_law 2714 = .ok (.invokevirtual 194, 3) := by decide +kernel
theorem d355_2717 : decode cL_law 2717 = .ok (.iload 6, 2) := by decide +kernel
theorem d355_2719 : decode cL_law 2719 = .ok (.if_icmp .eq 5, 3) := by decide +kernel
theorem d355_2722 : decode cL_law 2722 = .ok (.iconst 0, 1) := by decide +kernel
theorem d355_2723 : decode cL_law 2723 = .ok (.ireturn, 1) := by decide +kernel
theorem d355_2724 : decode cL_law 2724 = .ok (.iload 6, 2) := by decide +kernel
theorem d355_2726 : decode cL_law 2726 = .ok (.ifCond .ne 15, 3) := by decide +kernel
theorem d355_2729 : decode cL_law 2729 = .ok (.aload_n 3, 1) := by decide +kernel
theorem d355_2730 : decode cL_law 2730 = .ok (.iconst 0, 1) := by decide +kernel
theorem d355_2731 : decode cL_law 2731 = .ok (.laload, 1) := by decide +kernel
theorem d355_2732 : decode cL_law 2732 = .ok (.iload 7, 2) := by decide +kernel
theorem d355_2734 : decode cL_law 2734 = .ok (.i2l, 1) := by decide +kernel
theorem d355_2735 : decode cL_law 2735 = .ok (.lcmp, 1) := by decide +kernel
theorem d355_2736 : decode cL_law 2736 = .ok (.ifCond .eq 5, 3) := by decide +kernel
theorem d355_2739 : decode cL_law 2739 = .ok (.iconst 0, 1) := by decide +kernel
theorem d355_2740 : decode cL_law 2740 = .ok (.ireturn, 1) := by decide +kernel
theorem d355_2741 : decode cL_law 2741 = .ok (.goto 825, 3) := by decide +kernel
theorem d355_2744 : decode cL_law 2744 = .ok (.aload_n 1, 1) := by decide +kernel
theorem d355_2745 : decode cL_law 2745 = .ok (.aload_n 0, 1) := by decide +kernel
theorem d355_2746 : decode cL_law 2746 = .ok (.iload 5, 2) := by decide +kernel
theorem d355_2748 : decode cL_law 2748 = .ok (.iconst 1, 1) := by decide +kernel
theorem d355_2749 : decode cL_law 2749 = .ok (.iadd, 1) := by decide +kernel
theorem d355_2750 : decode cL_law 2750 = .ok (.iaload, 1) := by decide +kernel
theorem d355_2751 : decode cL_law 2751 = .ok (.aload_n 0, 1) := by decide +kernel
theorem d355_2752 : decode cL_law 2752 = .ok (.iload 5, 2) := by decide +kernel
theorem d355_2754 : decode cL_law 2754 = .ok (.iconst 2, 1) := by decide +kernel
theorem d355_2755 : decode cL_law 2755 = .ok (.iadd, 1) := by decide +kernel
theorem d355_2756 : decode cL_law 2756 = .ok (.iaload, 1) := by decide +kernel
theorem d355_2757 : decode cL_law 2757 = .ok (.aload_n 3, 1) := by decide +kernel
theorem d355_2758 : decode cL_law 2758 = .ok (.invokestatic 317, 3) := by decide +kernel
theorem d355_2761 : decode cL_law 2761 = .ok (.istore 6, 2) := by decide +kernel
theorem d355_2763 : decode cL_law 2763 = .ok (.aload_n 2, 1) := by decide +kernel
theorem d355_2764 : decode cL_law 2764 = .ok (.aload_n 0, 1) := by decide +kernel
theorem d355_2765 : decode cL_law 2765 = .ok (.iload 5, 2) := by decide +kernel
theorem d355_2767 : decode cL_law 2767 = .ok (.iconst 1, 1) := by decide +kernel
theorem d355_2768 : decode cL_law 2768 = .ok (.iadd, 1) := by decide +kernel
theorem d355_2769 : decode cL_law 2769 = .ok (.iaload, 1) := by decide +kernel
theorem d355_2770 : decode cL_law 2770 = .ok (.aload_n 0, 1) := by decide +kernel
theorem d355_2771 : decode cL_law 2771 = .ok (.iload 5, 2) := by decide +kernel
theorem d355_2773 : decode cL_law 2773 = .ok (.iconst 2, 1) := by decide +kernel
theorem d355_2774 : decode cL_law 2774 = .ok (.iadd, 1) := by decide +kernel
theorem d355_2775 : decode cL_law 2775 = .ok (.iaload, 1) := by decide +kernel
theorem d355_2776 : decode cL_law 2776 = .ok (.invokevirtual 319, 3) := by decide +kernel
theorem d355_2779 : decode cL_law 2779 = .ok (.istore 7, 2) := by decide +kernel
theorem d355_2781 : decode cL_law 2781 = .ok (.aload_n 2, 1) := by decide +kernel
theorem d355_2782 : decode cL_law 2782 = .ok (.invokevirtual 194, 3) := by decide +kernel
theorem d355_2785 : decode cL_law 2785 = .ok (.iload 6, 2) := by decide +kernel
theorem d355_2787 : decode cL_law 2787 = .ok (.if_icmp .eq 5, 3) := by decide +kernel
theorem d355_2790 : decode cL_law 2790 = .ok (.iconst 0, 1) := by decide +kernel
theorem d355_2791 : decode cL_law 2791 = .ok (.ireturn, 1) := by decide +kernel
theorem d355_2792 : decode cL_law 2792 = .ok (.iload 6, 2) := by decide +kernel
theorem d355_2794 : decode cL_law 2794 = .ok (.ifCond .ne 15, 3) := by decide +kernel
theorem d355_2797 : decode cL_law 2797 = .ok (.aload_n 3, 1) := by decide +kernel
theorem d355_2798 : decode cL_law 2798 = .ok (.iconst 0, 1) := by decide +kernel
theorem d355_2799 : decode cL_law 2799 = .ok (.laload, 1) := by decide +kernel
theorem d355_2800 : decode cL_law 2800 = .ok (.iload 7, 2) := by decide +kernel
theorem d355_2802 : decode cL_law 2802 = .ok (.i2l, 1) := by decide +kernel
theorem d355_2803 : decode cL_law 2803 = .ok (.lcmp, 1) := by decide +kernel
theorem d355_2804 : decode cL_law 2804 = .ok (.ifCond .eq 5, 3) := by decide +kernel
theorem d355_2807 : decode cL_law 2807 = .ok (.iconst 0, 1) := by decide +kernel
theorem d355_2808 : decode cL_law 2808 = .ok (.ireturn, 1) := by decide +kernel
theorem d355_2809 : decode cL_law 2809 = .ok (.goto 757, 3) := by decide +kernel
theorem d355_2812 : decode cL_law 2812 = .ok (.aload_n 1, 1) := by decide +kernel
theorem d355_2813 : decode cL_law 2813 = .ok (.aload_n 0, 1) := by decide +kernel
theorem d355_2814 : decode cL_law 2814 = .ok (.iload 5, 2) := by decide +kernel
theorem d355_2816 : decode cL_law 2816 = .ok (.iconst 1, 1) := by decide +kernel
theorem d355_2817 : decode cL_law 2817 = .ok (.iadd, 1) := by decide +kernel
theorem d355_2818 : decode cL_law 2818 = .ok (.iaload, 1) := by decide +kernel
theorem d355_2819 : decode cL_law 2819 = .ok (.aload_n 0, 1) := by decide +kernel
theorem d355_2820 : decode cL_law 2820 = .ok (.iload 5, 2) := by decide +kernel
theorem d355_2822 : decode cL_law 2822 = .ok (.iconst 2, 1) := by decide +kernel
theorem d355_2823 : decode cL_law 2823 = .ok (.iadd, 1) := by decide +kernel
theorem d355_2824 : decode cL_law 2824 = .ok (.iaload, 1) := by decide +kernel
theorem d355_2825 : decode cL_law 2825 = .ok (.aload_n 3, 1) := by decide +kernel
theorem d355_2826 : decode cL_law 2826 = .ok (.invokestatic 320, 3) := by decide +kernel
theorem d355_2829 : decode cL_law 2829 = .ok (.istore 6, 2) := by decide +kernel
theorem d355_2831 : decode cL_law 2831 = .ok (.aload_n 2, 1) := by decide +kernel
theorem d355_2832 : decode cL_law 2832 = .ok (.aload_n 0, 1) := by decide +kernel
theorem d355_2833 : decode cL_law 2833 = .ok (.iload 5, 2) := by decide +kernel
theorem d355_2835 : decode cL_law 2835 = .ok (.iconst 1, 1) := by decide +kernel
theorem d355_2836 : decode cL_law 2836 = .ok (.iadd, 1) := by decide +kernel
theorem d355_2837 : decode cL_law 2837 = .ok (.iaload, 1) := by decide +kernel
theorem d355_2838 : decode cL_law 2838 = .ok (.aload_n 0, 1) := by decide +kernel
theorem d355_2839 : decode cL_law 2839 = .ok (.iload 5, 2) := by decide +kernel
theorem d355_2841 : decode cL_law 2841 = .ok (.iconst 2, 1) := by decide +kernel
theorem d355_2842 : decode cL_law 2842 = .ok (.iadd, 1) := by decide +kernel
theorem d355_2843 : decode cL_law 2843 = .ok (.iaload, 1) := by decide +kernel
theorem d355_2844 : decode cL_law 2844 = .ok (.invokevirtual 322, 3) := by decide +kernel
theorem d355_2847 : decode cL_law 2847 = .ok (.istore 7, 2) := by decide +kernel
theorem d355_2849 : decode cL_law 2849 = .ok (.aload_n 2, 1) := by decide +kernel
theorem d355_2850 : decode cL_law 2850 = .ok (.invokevirtual 194, 3) := by decide +kernel
theorem d355_2853 : decode cL_law 2853 = .ok (.iload 6, 2) := by decide +kernel
theorem d355_2855 : decode cL_law 2855 = .ok (.if_icmp .eq 5, 3) := by decide +kernel
theorem d355_2858 : decode cL_law 2858 = .ok (.iconst 0, 1) := by decide +kernel
theorem d355_2859 : decode cL_law 2859 = .ok (.ireturn, 1) := by decide +kernel
theorem d355_2860 : decode cL_law 2860 = .ok (.iload 6, 2) := by decide +kernel
theorem d355_2862 : decode cL_law 2862 = .ok (.ifCond .ne 15, 3) := by decide +kernel
theorem d355_2865 : decode cL_law 2865 = .ok (.aload_n 3, 1) := by decide +kernel
theorem d355_2866 : decode cL_law 2866 = .ok (.iconst 0, 1) := by decide +kernel
theorem d355_2867 : decode cL_law 2867 = .ok (.laload, 1) := by decide +kernel
theorem d355_2868 : decode cL_law 2868 = .ok (.iload 7, 2) := by decide +kernel
theorem d355_2870 : decode cL_law 2870 = .ok (.i2l, 1) := by decide +kernel
theorem d355_2871 : decode cL_law 2871 = .ok (.lcmp, 1) := by decide +kernel
theorem d355_2872 : decode cL_law 2872 = .ok (.ifCond .eq 5, 3) := by decide +kernel
theorem d355_2875 : decode cL_law 2875 = .ok (.iconst 0, 1) := by decide +kernel
theorem d355_2876 : decode cL_law 2876 = .ok (.ireturn, 1) := by decide +kernel
theorem d355_2877 : decode cL_law 2877 = .ok (.goto 689, 3) := by decide +kernel
theorem d355_2880 : decode cL_law 2880 = .ok (.aload_n 1, 1) := by decide +kernel
theorem d355_2881 : decode cL_law 2881 = .ok (.aload_n 0, 1) := by decide +kernel
theorem d355_2882 : decode cL_law 2882 = .ok (.iload 5, 2) := by decide +kernel
theorem d355_2884 : decode cL_law 2884 = .ok (.iconst 1, 1) := by decide +kernel
theorem d355_2885 : decode cL_law 2885 = .ok (.iadd, 1) := by decide +kernel
theorem d355_2886 : decode cL_law 2886 = .ok (.iaload, 1) := by decide +kernel
theorem d355_2887 : decode cL_law 2887 = .ok (.aload_n 3, 1) := by decide +kernel
theorem d355_2888 : decode cL_law 2888 = .ok (.invokestatic 323, 3) := by decide +kernel
theorem d355_2891 : decode cL_law 2891 = .ok (.istore 6, 2) := by decide +kernel
theorem d355_2893 : decode cL_law 2893 = .ok (.aload_n 2, 1) := by decide +kernel
theorem d355_2894 : decode cL_law 2894 = .ok (.aload_n 0, 1) := by decide +kernel
theorem d355_2895 : decode cL_law 2895 = .ok (.iload 5, 2) := by decide +kernel
theorem d355_2897 : decode cL_law 2897 = .ok (.iconst 1, 1) := by decide +kernel
theorem d355_2898 : decode cL_law 2898 = .ok (.iadd, 1) := by decide +kernel
theorem d355_2899 : decode cL_law 2899 = .ok (.iaload, 1) := by decide +kernel
theorem d355_2900 : decode cL_law 2900 = .ok (.invokevirtual 325, 3) := by decide +kernel
theorem d355_2903 : decode cL_law 2903 = .ok (.istore 7, 2) := by decide +kernel
theorem d355_2905 : decode cL_law 2905 = .ok (.aload_n 2, 1) := by decide +kernel
theorem d355_2906 : decode cL_law 2906 = .ok (.invokevirtual 194, 3) := by decide +kernel
theorem d355_2909 : decode cL_law 2909 = .ok (.iload 6, 2) := by decide +kernel
theorem d355_2911 : decode cL_law 2911 = .ok (.if_icmp .eq 5, 3) := by decide +kernel
theorem d355_2914 : decode cL_law 2914 = .ok (.iconst 0, 1) := by decide +kernel
theorem d355_2915 : decode cL_law 2915 = .ok (.ireturn, 1) := by decide +kernel
theorem d355_2916 : decode cL_law 2916 = .ok (.iload 6, 2) := by decide +kernel
theorem d355_2918 : decode cL_law 2918 = .ok (.ifCond .ne 15, 3) := by decide +kernel
theorem d355_2921 : decode cL_law 2921 = .ok (.aload_n 3, 1) := by decide +kernel
theorem d355_2922 : decode cL_law 2922 = .ok (.iconst 0, 1) := by decide +kernel
theorem d355_2923 : decode cL_law 2923 = .ok (.laload, 1) := by decide +kernel
theorem d355_2924 : decode cL_law 2924 = .ok (.iload 7, 2) := by decide +kernel
theorem d355_2926 : decode cL_law 2926 = .ok (.i2l, 1) := by decide +kernel
theorem d355_2927 : decode cL_law 2927 = .ok (.lcmp, 1) := by decide +kernel
theorem d355_2928 : decode cL_law 2928 = .ok (.ifCond .eq 5, 3) := by decide +kernel
theorem d355_2931 : decode cL_law 2931 = .ok (.iconst 0, 1) := by decide +kernel
theorem d355_2932 : decode cL_law 2932 = .ok (.ireturn, 1) := by decide +kernel
theorem d355_2933 : decode cL_law 2933 = .ok (.goto 633, 3) := by decide +kernel
theorem d355_2936 : decode cL_law 2936 = .ok (.aload_n 1, 1) := by decide +kernel
theorem d355_2937 : decode cL_law 2937 = .ok (.aload_n 0, 1) := by decide +kernel
theorem d355_2938 : decode cL_law 2938 = .ok (.iload 5, 2) := by decide +kernel
theorem d355_2940 : decode cL_law 2940 = .ok (.iconst 1, 1) := by decide +kernel
theorem d355_2941 : decode cL_law 2941 = .ok (.iadd, 1) := by decide +kernel
theorem d355_2942 : decode cL_law 2942 = .ok (.iaload, 1) := by decide +kernel
theorem d355_2943 : decode cL_law 2943 = .ok (.aload_n 3, 1) := by decide +kernel
theorem d355_2944 : decode cL_law 2944 = .ok (.invokestatic 326, 3) := by decide +kernel
theorem d355_2947 : decode cL_law 2947 = .ok (.istore 6, 2) := by decide +kernel
theorem d355_2949 : decode cL_law 2949 = .ok (.aload_n 2, 1) := by decide +kernel
theorem d355_2950 : decode cL_law 2950 = .ok (.aload_n 0, 1) := by decide +kernel
theorem d355_2951 : decode cL_law 2951 = .ok (.iload 5, 2) := by decide +kernel
theorem d355_2953 : decode cL_law 2953 = .ok (.iconst 1, 1) := by decide +kernel
theorem d355_2954 : decode cL_law 2954 = .ok (.iadd, 1) := by decide +kernel
theorem d355_2955 : decode cL_law 2955 = .ok (.iaload, 1) := by decide +kernel
theorem d355_2956 : decode cL_law 2956 = .ok (.invokevirtual 328, 3) := by decide +kernel
theorem d355_2959 : decode cL_law 2959 = .ok (.istore 7, 2) := by decide +kernel
theorem d355_2961 : decode cL_law 2961 = .ok (.aload_n 2, 1) := by decide +kernel
theorem d355_2962 : decode cL_law 2962 = .ok (.invokevirtual 194, 3) := by decide +kernel
theorem d355_2965 : decode cL_law 2965 = .ok (.iload 6, 2) := by decide +kernel
theorem d355_2967 : decode cL_law 2967 = .ok (.if_icmp .eq 5, 3) := by decide +kernel
theorem d355_2970 : decode cL_law 2970 = .ok (.iconst 0, 1) := by decide +kernel
theorem d355_2971 : decode cL_law 2971 = .ok (.ireturn, 1) := by decide +kernel
theorem d355_2972 : decode cL_law 2972 = .ok (.iload 6, 2) := by decide +kernel
theorem d355_2974 : decode cL_law 2974 = .ok (.ifCond .ne 15, 3) := by decide +kernel
theorem d355_2977 : decode cL_law 2977 = .ok (.aload_n 3, 1) := by decide +kernel
theorem d355_2978 : decode cL_law 2978 = .ok (.iconst 0, 1) := by decide +kernel
theorem d355_2979 : decode cL_law 2979 = .ok (.laload, 1) := by decide +kernel
theorem d355_2980 : decode cL_law 2980 = .ok (.iload 7, 2) := by decide +kernel
theorem d355_2982 : decode cL_law 2982 = .ok (.i2l, 1) := by decide +kernel
theorem d355_2983 : decode cL_law 2983 = .ok (.lcmp, 1) := by decide +kernel
theorem d355_2984 : decode cL_law 2984 = .ok (.ifCond .eq 5, 3) := by decide +kernel
theorem d355_2987 : decode cL_law 2987 = .ok (.iconst 0, 1) := by decide +kernel
theorem d355_2988 : decode cL_law 2988 = .ok (.ireturn, 1) := by decide +kernel
theorem d355_2989 : decode cL_law 2989 = .ok (.goto 577, 3) := by decide +kernel
theorem d355_2992 : decode cL_law 2992 = .ok (.aload_n 1, 1) := by decide +kernel
theorem d355_2993 : decode cL_law 2993 = .ok (.aload_n 0, 1) := by decide +kernel
theorem d355_2994 : decode cL_law 2994 = .ok (.iload 5, 2) := by decide +kernel
theorem d355_2996 : decode cL_law 2996 = .ok (.iconst 1, 1) := by decide +kernel
theorem d355_2997 : decode cL_law 2997 = .ok (.iadd, 1) := by decide +kernel
theorem d355_2998 : decode cL_law 2998 = .ok (.iaload, 1) := by decide +kernel
theorem d355_2999 : decode cL_law 2999 = .ok (.aload_n 3, 1) := by decide +kernel
theorem d355_3000 : decode cL_law 3000 = .ok (.invokestatic 329, 3) := by decide +kernel
theorem d355_3003 : decode cL_law 3003 = .ok (.istore 6, 2) := by decide +kernel
theorem d355_3005 : decode cL_law 3005 = .ok (.aload_n 2, 1) := by decide +kernel
theorem d355_3006 : decode cL_law 3006 = .ok (.aload_n 0, 1) := by decide +kernel
theorem d355_3007 : decode cL_law 3007 = .ok (.iload 5, 2) := by decide +kernel
theorem d355_3009 : decode cL_law 3009 = .ok (.iconst 1, 1) := by decide +kernel
theorem d355_3010 : decode cL_law 3010 = .ok (.iadd, 1) := by decide +kernel
theorem d355_3011 : decode cL_law 3011 = .ok (.iaload, 1) := by decide +kernel
theorem d355_3012 : decode cL_law 3012 = .ok (.invokevirtual 331, 3) := by decide +kernel
theorem d355_3015 : decode cL_law 3015 = .ok (.istore 7, 2) := by decide +kernel
theorem d355_3017 : decode cL_law 3017 = .ok (.aload_n 2, 1) := by decide +kernel
theorem d355_3018 : decode cL_law 3018 = .ok (.invokevirtual 194, 3) := by decide +kernel
theorem d355_3021 : decode cL_law 3021 = .ok (.iload 6, 2) := by decide +kernel
theorem d355_3023 : decode cL_law 3023 = .ok (.if_icmp .eq 5, 3) := by decide +kernel
theorem d355_3026 : decode cL_law 3026 = .ok (.iconst 0, 1) := by decide +kernel
theorem d355_3027 : decode cL_law 3027 = .ok (.ireturn, 1) := by decide +kernel
theorem d355_3028 : decode cL_law 3028 = .ok (.iload 6, 2) := by decide +kernel
theorem d355_3030 : decode cL_law 3030 = .ok (.ifCond .ne 15, 3) := by decide +kernel
theorem d355_3033 : decode cL_law 3033 = .ok (.aload_n 3, 1) := by decide +kernel
theorem d355_3034 : decode cL_law 3034 = .ok (.iconst 0, 1) := by decide +kernel
theorem d355_3035 : decode cL_law 3035 = .ok (.laload, 1) := by decide +kernel
theorem d355_3036 : decode cL_law 3036 = .ok (.iload 7, 2) := by decide +kernel
theorem d355_3038 : decode cL_law 3038 = .ok (.i2l, 1) := by decide +kernel
theorem d355_3039 : decode cL_law 3039 = .ok (.lcmp, 1) := by decide +kernel
theorem d355_3040 : decode cL_law 3040 = .ok (.ifCond .eq 5, 3) := by decide +kernel
theorem d355_3043 : decode cL_law 3043 = .ok (.iconst 0, 1) := by decide +kernel
theorem d355_3044 : decode cL_law 3044 = .ok (.ireturn, 1) := by decide +kernel
theorem d355_3045 : decode cL_law 3045 = .ok (.goto 521, 3) := by decide +kernel
theorem d355_3048 : decode cL_law 3048 = .ok (.aload_n 1, 1) := by decide +kernel
theorem d355_3049 : decode cL_law 3049 = .ok (.aload_n 0, 1) := by decide +kernel
theorem d355_3050 : decode cL_law 3050 = .ok (.iload 5, 2) := by decide +kernel
theorem d355_3052 : decode cL_law 3052 = .ok (.iconst 1, 1) := by decide +kernel
theorem d355_3053 : decode cL_law 3053 = .ok (.iadd, 1) := by decide +kernel
theorem d355_3054 : decode cL_law 3054 = .ok (.iaload, 1) := by decide +kernel
theorem d355_3055 : decode cL_law 3055 = .ok (.aload_n 3, 1) := by decide +kernel
theorem d355_3056 : decode cL_law 3056 = .ok (.invokestatic 332, 3) := by decide +kernel
theorem d355_3059 : decode cL_law 3059 = .ok (.istore 6, 2) := by decide +kernel
theorem d355_3061 : decode cL_law 3061 = .ok (.aload_n 2, 1) := by decide +kernel
theorem d355_3062 : decode cL_law 3062 = .ok (.aload_n 0, 1) := by decide +kernel
theorem d355_3063 : decode cL_law 3063 = .ok (.iload 5, 2) := by decide +kernel
theorem d355_3065 : decode cL_law 3065 = .ok (.iconst 1, 1) := by decide +kernel
theorem d355_3066 : decode cL_law 3066 = .ok (.iadd, 1) := by decide +kernel
theorem d355_3067 : decode cL_law 3067 = .ok (.iaload, 1) := by decide +kernel
theorem d355_3068 : decode cL_law 3068 = .ok (.invokevirtual 334, 3) := by decide +kernel
theorem d355_3071 : decode cL_law 3071 = .ok (.istore 7, 2) := by decide +kernel
theorem d355_3073 : decode cL_law 3073 = .ok (.aload_n 2, 1) := by decide +kernel
theorem d355_3074 : decode cL_law 3074 = .ok (.invokevirtual 194, 3) := by decide +kernel
theorem d355_3077 : decode cL_law 3077 = .ok (.iload 6, 2) := by decide +kernel
theorem d355_3079 : decode cL_law 3079 = .ok (.if_icmp .eq 5, 3) := by decide +kernel
theorem d355_3082 : decode cL_law 3082 = .ok (.iconst 0, 1) := by decide +kernel
theorem d355_3083 : decode cL_law 3083 = .ok (.ireturn, 1) := by decide +kernel
theorem d355_3084 : decode cL_law 3084 = .ok (.iload 6, 2) := by decide +kernel
theorem d355_3086 : decode cL_law 3086 = .ok (.ifCond .ne 15, 3) := by decide +kernel
theorem d355_3089 : decode cL_law 3089 = .ok (.aload_n 3, 1) := by decide +kernel
theorem d355_3090 : decode cL_law 3090 = .ok (.iconst 0, 1) := by decide +kernel
theorem d355_3091 : decode cL_law 3091 = .ok (.laload, 1) := by decide +kernel
theorem d355_3092 : decode cL_law 3092 = .ok (.iload 7, 2) := by decide +kernel
theorem d355_3094 : decode cL_law 3094 = .ok (.i2l, 1) := by decide +kernel
theorem d355_3095 : decode cL_law 3095 = .ok (.lcmp, 1) := by decide +kernel
theorem d355_3096 : decode cL_law 3096 = .ok (.ifCond .eq 5, 3) := by decide +kernel
theorem d355_3099 : decode cL_law 3099 = .ok (.iconst 0, 1) := by decide +kernel
theorem d355_3100 : decode cL_law 3100 = .ok (.ireturn, 1) := by decide +kernel
theorem d355_3101 : decode cL_law 3101 = .ok (.goto 465, 3) := by decide +kernel
theorem d355_3104 : decode cL_law 3104 = .ok (.aload_n 1, 1) := by decide +kernel
theorem d355_3105 : decode cL_law 3105 = .ok (.aload_n 0, 1) := by decide +kernel
theorem d355_3106 : decode cL_law 3106 = .ok (.iload 5, 2) := by decide +kernel
theorem d355_3108 : decode cL_law 3108 = .ok (.iconst 1, 1) := by decide +kernel
theorem d355_3109 : decode cL_law 3109 = .ok (.iadd, 1) := by decide +kernel
theorem d355_3110 : decode cL_law 3110 = .ok (.iaload, 1) := by decide +kernel
theorem d355_3111 : decode cL_law 3111 = .ok (.aload_n 3, 1) := by decide +kernel
theorem d355_3112 : decode cL_law 3112 = .ok (.invokestatic 335, 3) := by decide +kernel
theorem d355_3115 : decode cL_law 3115 = .ok (.istore 6, 2) := by decide +kernel
theorem d355_3117 : decode cL_law 3117 = .ok (.aload_n 2, 1) := by decide +kernel
theorem d355_3118 : decode cL_law 3118 = .ok (.aload_n 0, 1) := by decide +kernel
theorem d355_3119 : decode cL_law 3119 = .ok (.iload 5, 2) := by decide +kernel
theorem d355_3121 : decode cL_law 3121 = .ok (.iconst 1, 1) := by decide +kernel
theorem d355_3122 : decode cL_law 3122 = .ok (.iadd, 1) := by decide +kernel
theorem d355_3123 : decode cL_law 3123 = .ok (.iaload, 1) := by decide +kernel
theorem d355_3124 : decode cL_law 3124 = .ok (.invokevirtual 337, 3) := by decide +kernel
theorem d355_3127 : decode cL_law 3127 = .ok (.istore 7, 2) := by decide +kernel
theorem d355_3129 : decode cL_law 3129 = .ok (.aload_n 2, 1) := by decide +kernel
theorem d355_3130 : decode cL_law 3130 = .ok (.invokevirtual 194, 3) := by decide +kernel
theorem d355_3133 : decode cL_law 3133 = .ok (.iload 6, 2) := by decide +kernel
theorem d355_3135 : decode cL_law 3135 = .ok (.if_icmp .eq 5, 3) := by decide +kernel
theorem d355_3138 : decode cL_law 3138 = .ok (.iconst 0, 1) := by decide +kernel
theorem d355_3139 : decode cL_law 3139 = .ok (.ireturn, 1) := by decide +kernel
theorem d355_3140 : decode cL_law 3140 = .ok (.iload 6, 2) := by decide +kernel
theorem d355_3142 : decode cL_law 3142 = .ok (.ifCond .ne 15, 3) := by decide +kernel
theorem d355_3145 : decode cL_law 3145 = .ok (.aload_n 3, 1) := by decide +kernel
theorem d355_3146 : decode cL_law 3146 = .ok (.iconst 0, 1) := by decide +kernel
theorem d355_3147 : decode cL_law 3147 = .ok (.laload, 1) := by decide +kernel
theorem d355_3148 : decode cL_law 3148 = .ok (.iload 7, 2) := by decide +kernel
theorem d355_3150 : decode cL_law 3150 = .ok (.i2l, 1) := by decide +kernel
theorem d355_3151 : decode cL_law 3151 = .ok (.lcmp, 1) := by decide +kernel
theorem d355_3152 : decode cL_law 3152 = .ok (.ifCond .eq 5, 3) := by decide +kernel
theorem d355_3155 : decode cL_law 3155 = .ok (.iconst 0, 1) := by decide +kernel
theorem d355_3156 : decode cL_law 3156 = .ok (.ireturn, 1) := by decide +kernel
theorem d355_3157 : decode cL_law 3157 = .ok (.goto 409, 3) := by decide +kernel
theorem d355_3160 : decode cL_law 3160 = .ok (.aload_n 1, 1) := by decide +kernel
theorem d355_3161 : decode cL_law 3161 = .ok (.aload_n 0, 1) := by decide +kernel
theorem d355_3162 : decode cL_law 3162 = .ok (.iload 5, 2) := by decide +kernel
theorem d355_3164 : decode cL_law 3164 = .ok (.iconst 1, 1) := by decide +kernel
theorem d355_3165 : decode cL_law 3165 = .ok (.iadd, 1) := by decide +kernel
theorem d355_3166 : decode cL_law 3166 = .ok (.iaload, 1) := by decide +kernel
theorem d355_3167 : decode cL_law 3167 = .ok (.aload 4, 2) := by decide +kernel
theorem d355_3169 : decode cL_law 3169 = .ok (.invokestatic 338, 3) := by decide +kernel
theorem d355_3172 : decode cL_law 3172 = .ok (.istore 6, 2) := by decide +kernel
theorem d355_3174 : decode cL_law 3174 = .ok (.aload_n 2, 1) := by decide +kernel
theorem d355_3175 : decode cL_law 3175 = .ok (.aload_n 0, 1) := by decide +kernel
theorem d355_3176 : decode cL_law 3176 = .ok (.iload 5, 2) := by decide +kernel
theorem d355_3178 : decode cL_law 3178 = .ok (.iconst 1, 1) := by decide +kernel
theorem d355_3179 : decode cL_law 3179 = .ok (.iadd, 1) := by decide +kernel
theorem d355_3180 : decode cL_law 3180 = .ok (.iaload, 1) := by decide +kernel
theorem d355_3181 : decode cL_law 3181 = .ok (.invokevirtual 341, 3) := by decide +kernel
theorem d355_3184 : decode cL_law 3184 = .ok (.dstore 7, 2) := by decide +kernel
theorem d355_3186 : decode cL_law 3186 = .ok (.aload_n 2, 1) := by decide +kernel
theorem d355_3187 : decode cL_law 3187 = .ok (.invokevirtual 194, 3) := by decide +kernel
theorem d355_3190 : decode cL_law 3190 = .ok (.iload 6, 2) := by decide +kernel
theorem d355_3192 : decode cL_law 3192 = .ok (.if_icmp .eq 5, 3) := by decide +kernel
theorem d355_3195 : decode cL_law 3195 = .ok (.iconst 0, 1) := by decide +kernel
theorem d355_3196 : decode cL_law 3196 = .ok (.ireturn, 1) := by decide +kernel
theorem d355_3197 : decode cL_law 3197 = .ok (.iload 6, 2) := by decide +kernel
theorem d355_3199 : decode cL_law 3199 = .ok (.ifCond .ne 35, 3) := by decide +kernel
theorem d355_3202 : decode cL_law 3202 = .ok (.aload 4, 2) := by decide +kernel
theorem d355_3204 : decode cL_law 3204 = .ok (.iconst 0, 1) := by decide +kernel
theorem d355_3205 : decode cL_law 3205 = .ok (.daload, 1) := by decide +kernel
theorem d355_3206 : decode cL_law 3206 = .ok (.dload 7, 2) := by decide +kernel
theorem d355_3208 : decode cL_law 3208 = .ok (.dcmp .l, 1) := by decide +kernel
theorem d355_3209 : decode cL_law 3209 = .ok (.ifCond .eq 25, 3) := by decide +kernel
theorem d355_3212 : decode cL_law 3212 = .ok (.aload 4, 2) := by decide +kernel
theorem d355_3214 : decode cL_law 3214 = .ok (.iconst 0, 1) := by decide +kernel
theorem d355_3215 : decode cL_law 3215 = .ok (.daload, 1) := by decide +kernel
theorem d355_3216 : decode cL_law 3216 = .ok (.aload 4, 2) := by decide +kernel
theorem d355_3218 : decode cL_law 3218 = .ok (.iconst 0, 1) := by decide +kernel
theorem d355_3219 : decode cL_law 3219 = .ok (.daload, 1) := by decide +kernel
theorem d355_3220 : decode cL_law 3220 = .ok (.dcmp .l, 1) := by decide +kernel
theorem d355_3221 : decode cL_law 3221 = .ok (.ifCond .eq 11, 3) := by decide +kernel
theorem d355_3224 : decode cL_law 3224 = .ok (.dload 7, 2) := by decide +kernel
theorem d355_3226 : decode cL_law 3226 = .ok (.dload 7, 2) := by decide +kernel
theorem d355_3228 : decode cL_law 3228 = .ok (.dcmp .l, 1) := by decide +kernel
theorem d355_3229 : decode cL_law 3229 = .ok (.ifCond .ne 5, 3) := by decide +kernel
theorem d355_3232 : decode cL_law 3232 = .ok (.iconst 0, 1) := by decide +kernel
theorem d355_3233 : decode cL_law 3233 = .ok (.ireturn, 1) := by decide +kernel
theorem d355_3234 : decode cL_law 3234 = .ok (.goto 332, 3) := by decide +kernel
theorem d355_3237 : decode cL_law 3237 = .ok (.aload_n 1, 1) := by decide +kernel
theorem d355_3238 : decode cL_law 3238 = .ok (.invokevirtual 342, 3) := by decide +kernel
theorem d355_3241 : decode cL_law 3241 = .ok (.f2d, 1) := by decide +kernel
theorem d355_3242 : decode cL_law 3242 = .ok (.dstore 6, 2) := by decide +kernel
theorem d355_3244 : decode cL_law 3244 = .ok (.aload_n 2, 1) := by decide +kernel
theorem d355_3245 : decode cL_law 3245 = .ok (.invokevirtual 346, 3) := by decide +kernel
theorem d355_3248 : decode cL_law 3248 = .ok (.f2d, 1) := by decide +kernel
theorem d355_3249 : decode cL_law 3249 = .ok (.dstore 8, 2) := by decide +kernel
theorem d355_3251 : decode cL_law 3251 = .ok (.dload 6, 2) := by decide +kernel
theorem d355_3253 : decode cL_law 3253 = .ok (.dload 8, 2) := by decide +kernel
theorem d355_3255 : decode cL_law 3255 = .ok (.dcmp .l, 1) := by decide +kernel
theorem d355_3256 : decode cL_law 3256 = .ok (.ifCond .eq 21, 3) := by decide +kernel
theorem d355_3259 : decode cL_law 3259 = .ok (.dload 6, 2) := by decide +kernel
theorem d355_3261 : decode cL_law 3261 = .ok (.dload 6, 2) := by decide +kernel
theorem d355_3263 : decode cL_law 3263 = .ok (.dcmp .l, 1) := by decide +kernel
theorem d355_3264 : decode cL_law 3264 = .ok (.ifCond .eq 11, 3) := by decide +kernel
theorem d355_3267 : decode cL_law 3267 = .ok (.dload 8, 2) := by decide +kernel
theorem d355_3269 : decode cL_law 3269 = .ok (.dload 8, 2) := by decide +kernel
theorem d355_3271 : decode cL_law 3271 = .ok (.dcmp .l, 1) := by decide +kernel
theorem d355_3272 : decode cL_law 3272 = .ok (.ifCond .ne 5, 3) := by decide +kernel
theorem d355_3275 : decode cL_law 3275 = .ok (.iconst 0, 1) := by decide +kernel
theorem d355_3276 : decode cL_law 3276 = .ok (.ireturn, 1) := by decide +kernel
theorem d355_3277 : decode cL_law 3277 = .ok (.goto 289, 3) := by decide +kernel
theorem d355_3280 : decode cL_law 3280 = .ok (.aload_n 1, 1) := by decide +kernel
theorem d355_3281 : decode cL_law 3281 = .ok (.aload_n 0, 1) := by decide +kernel
theorem d355_3282 : decode cL_law 3282 = .ok (.iload 5, 2) := by decide +kernel
theorem d355_3284 : decode cL_law 3284 = .ok (.iconst 1, 1) := by decide +kernel
theorem d355_3285 : decode cL_law 3285 = .ok (.iadd, 1) := by decide +kernel
theorem d355_3286 : decode cL_law 3286 = .ok (.iaload, 1) := by decide +kernel
theorem d355_3287 : decode cL_law 3287 = .ok (.aload_n 0, 1) := by decide +kernel
theorem d355_3288 : decode cL_law 3288 = .ok (.iload 5, 2) := by decide +kernel
theorem d355_3290 : decode cL_law 3290 = .ok (.iconst 2, 1) := by decide +kernel
theorem d355_3291 : decode cL_law 3291 = .ok (.iadd, 1) := by decide +kernel
theorem d355_3292 : decode cL_law 3292 = .ok (.iaload, 1) := by decide +kernel
theorem d355_3293 : decode cL_law 3293 = .ok (.aload_n 3, 1) := by decide +kernel
theorem d355_3294 : decode cL_law 3294 = .ok (.invokestatic 347, 3) := by decide +kernel
theorem d355_3297 : decode cL_law 3297 = .ok (.istore 6, 2) := by decide +kernel
theorem d355_3299 : decode cL_law 3299 = .ok (.aload_n 2, 1) := by decide +kernel
theorem d355_3300 : decode cL_law 3300 = .ok (.aload_n 0, 1) := by decide +kernel
theorem d355_3301 : decode cL_law 3301 = .ok (.iload 5, 2) := by decide +kernel
theorem d355_3303 : decode cL_law 3303 = .ok (.iconst 1, 1) := by decide +kernel
theorem d355_3304 : decode cL_law 3304 = .ok (.iadd, 1) := by decide +kernel
theorem d355_3305 : decode cL_law 3305 = .ok (.iaload, 1) := by decide +kernel
theorem d355_3306 : decode cL_law 3306 = .ok (.aload_n 0, 1) := by decide +kernel
theorem d355_3307 : decode cL_law 3307 = .ok (.iload 5, 2) := by decide +kernel
theorem d355_3309 : decode cL_law 3309 = .ok (.iconst 2, 1) := by decide +kernel
theorem d355_3310 : decode cL_law 3310 = .ok (.iadd, 1) := by decide +kernel
theorem d355_3311 : decode cL_law 3311 = .ok (.iaload, 1) := by decide +kernel
theorem d355_3312 : decode cL_law 3312 = .ok (.invokevirtual 349, 3) := by decide +kernel
theorem d355_3315 : decode cL_law 3315 = .ok (.istore 7, 2) := by decide +kernel
theorem d355_3317 : decode cL_law 3317 = .ok (.aload_n 2, 1) := by decide +kernel
theorem d355_3318 : decode cL_law 3318 = .ok (.invokevirtual 194, 3) := by decide +kernel
theorem d355_3321 : decode cL_law 3321 = .ok (.iload 6, 2) := by decide +kernel
theorem d355_3323 : decode cL_law 3323 = .ok (.if_icmp .eq 5, 3) := by decide +kernel
theorem d355_3326 : decode cL_law 3326 = .ok (.iconst 0, 1) := by decide +kernel
theorem d355_3327 : decode cL_law 3327 = .ok (.ireturn, 1) := by decide +kernel
theorem d355_3328 : decode cL_law 3328 = .ok (.iload 6, 2) := by decide +kernel
theorem d355_3330 : decode cL_law 3330 = .ok (.ifCond .ne 15, 3) := by decide +kernel
theorem d355_3333 : decode cL_law 3333 = .ok (.aload_n 3, 1) := by decide +kernel
theorem d355_3334 : decode cL_law 3334 = .ok (.iconst 0, 1) := by decide +kernel
theorem d355_3335 : decode cL_law 3335 = .ok (.laload, 1) := by decide +kernel
theorem d355_3336 : decode cL_law 3336 = .ok (.iload 7, 2) := by decide +kernel
theorem d355_3338 : decode cL_law 3338 = .ok (.i2l, 1) := by decide +kernel
theorem d355_3339 : decode cL_law 3339 = .ok (.lcmp, 1) := by decide +kernel
theorem d355_3340 : decode cL_law 3340 = .ok (.ifCond .eq 5, 3) := by decide +kernel
theorem d355_3343 : decode cL_law 3343 = .ok (.iconst 0, 1) := by decide +kernel
theorem d355_3344 : decode cL_law 3344 = .ok (.ireturn, 1) := by decide +kernel
theorem d355_3345 : decode cL_law 3345 = .ok (.goto 221, 3) := by decide +kernel
theorem d355_3348 : decode cL_law 3348 = .ok (.aload_n 1, 1) := by decide +kernel
theorem d355_3349 : decode cL_law 3349 = .ok (.aload_n 0, 1) := by decide +kernel
theorem d355_3350 : decode cL_law 3350 = .ok (.iload 5, 2) := by decide +kernel
theorem d355_3352 : decode cL_law 3352 = .ok (.iconst 1, 1) := by decide +kernel
theorem d355_3353 : decode cL_law 3353 = .ok (.iadd, 1) := by decide +kernel
theorem d355_3354 : decode cL_law 3354 = .ok (.iaload, 1) := by decide +kernel
theorem d355_3355 : decode cL_law 3355 = .ok (.aload_n 0, 1) := by decide +kernel
theorem d355_3356 : decode cL_law 3356 = .ok (.iload 5, 2) := by decide +kernel
theorem d355_3358 : decode cL_law 3358 = .ok (.iconst 2, 1) := by decide +kernel
theorem d355_3359 : decode cL_law 3359 = .ok (.iadd, 1) := by decide +kernel
theorem d355_3360 : decode cL_law 3360 = .ok (.iaload, 1) := by decide +kernel
theorem d355_3361 : decode cL_law 3361 = .ok (.aload_n 3, 1) := by decide +kernel
theorem d355_3362 : decode cL_law 3362 = .ok (.invokestatic 350, 3) := by decide +kernel
theorem d355_3365 : decode cL_law 3365 = .ok (.istore 6, 2) := by decide +kernel
theorem d355_3367 : decode cL_law 3367 = .ok (.aload_n 2, 1) := by decide +kernel
theorem d355_3368 : decode cL_law 3368 = .ok (.aload_n 0, 1) := by decide +kernel
theorem d355_3369 : decode cL_law 3369 = .ok (.iload 5, 2) := by decide +kernel
theorem d355_3371 : decode cL_law 3371 = .ok (.iconst 1, 1) := by decide +kernel
theorem d355_3372 : decode cL_law 3372 = .ok (.iadd, 1) := by decide +kernel
theorem d355_3373 : decode cL_law 3373 = .ok (.iaload, 1) := by decide +kernel
theorem d355_3374 : decode cL_law 3374 = .ok (.aload_n 0, 1) := by decide +kernel
theorem d355_3375 : decode cL_law 3375 = .ok (.iload 5, 2) := by decide +kernel
theorem d355_3377 : decode cL_law 3377 = .ok (.iconst 2, 1) := by decide +kernel
theorem d355_3378 : decode cL_law 3378 = .ok (.iadd, 1) := by decide +kernel
theorem d355_3379 : decode cL_law 3379 = .ok (.iaload, 1) := by decide +kernel
theorem d355_3380 : decode cL_law 3380 = .ok (.invokevirtual 352, 3) := by decide +kernel
theorem d355_3383 : decode cL_law 3383 = .ok (.istore 7, 2) := by decide +kernel
theorem d355_3385 : decode cL_law 3385 = .ok (.aload_n 2, 1) := by decide +kernel
theorem d355_3386 : decode cL_law 3386 = .ok (.invokevirtual 194, 3) := by decide +kernel
theorem d355_3389 : decode cL_law 3389 = .ok (.iload 6, 2) := by decide +kernel
theorem d355_3391 : decode cL_law 3391 = .ok (.if_icmp .eq 5, 3) := by decide +kernel
theorem d355_3394 : decode cL_law 3394 = .ok (.iconst 0, 1) := by decide +kernel
theorem d355_3395 : decode cL_law 3395 = .ok (.ireturn, 1) := by decide +kernel
theorem d355_3396 : decode cL_law 3396 = .ok (.iload 6, 2) := by decide +kernel
theorem d355_3398 : decode cL_law 3398 = .ok (.ifCond .ne 15, 3) := by decide +kernel
theorem d355_3401 : decode cL_law 3401 = .ok (.aload_n 3, 1) := by decide +kernel
theorem d355_3402 : decode cL_law 3402 = .ok (.iconst 0, 1) := by decide +kernel
theorem d355_3403 : decode cL_law 3403 = .ok (.laload, 1) := by decide +kernel
theorem d355_3404 : decode cL_law 3404 = .ok (.iload 7, 2) := by decide +kernel
theorem d355_3406 : decode cL_law 3406 = .ok (.i2l, 1) := by decide +kernel
theorem d355_3407 : decode cL_law 3407 = .ok (.lcmp, 1) := by decide +kernel
theorem d355_3408 : decode cL_law 3408 = .ok (.ifCond .eq 5, 3) := by decide +kernel
theorem d355_3411 : decode cL_law 3411 = .ok (.iconst 0, 1) := by decide +kernel
theorem d355_3412 : decode cL_law 3412 = .ok (.ireturn, 1) := by decide +kernel
theorem d355_3413 : decode cL_law 3413 = .ok (.goto 153, 3) := by decide +kernel
theorem d355_3416 : decode cL_law 3416 = .ok (.aload_n 1, 1) := by decide +kernel
theorem d355_3417 : decode cL_law 3417 = .ok (.aload_n 0, 1) := by decide +kernel
theorem d355_3418 : decode cL_law 3418 = .ok (.iload 5, 2) := by decide +kernel
theorem d355_3420 : decode cL_law 3420 = .ok (.iconst 1, 1) := by decide +kernel
theorem d355_3421 : decode cL_law 3421 = .ok (.iadd, 1) := by decide +kernel
theorem d355_3422 : decode cL_law 3422 = .ok (.iaload, 1) := by decide +kernel
theorem d355_3423 : decode cL_law 3423 = .ok (.invokevirtual 353, 3) := by decide +kernel
theorem d355_3426 : decode cL_law 3426 = .ok (.aload_n 2, 1) := by decide +kernel
theorem d355_3427 : decode cL_law 3427 = .ok (.aload_n 0, 1) := by decide +kernel
theorem d355_3428 : decode cL_law 3428 = .ok (.iload 5, 2) := by decide +kernel
theorem d355_3430 : decode cL_law 3430 = .ok (.iconst 1, 1) := by decide +kernel
theorem d355_3431 : decode cL_law 3431 = .ok (.iadd, 1) := by decide +kernel
theorem d355_3432 : decode cL_law 3432 = .ok (.iaload, 1) := by decide +kernel
theorem d355_3433 : decode cL_law 3433 = .ok (.invokevirtual 356, 3) := by decide +kernel
theorem d355_3436 : decode cL_law 3436 = .ok (.if_icmp .eq 130, 3) := by decide +kernel
theorem d355_3439 : decode cL_law 3439 = .ok (.iconst 0, 1) := by decide +kernel
theorem d355_3440 : decode cL_law 3440 = .ok (.ireturn, 1) := by decide +kernel
theorem d355_3441 : decode cL_law 3441 = .ok (.aload_n 1, 1) := by decide +kernel
theorem d355_3442 : decode cL_law 3442 = .ok (.invokevirtual 357, 3) := by decide +kernel
theorem d355_3445 : decode cL_law 3445 = .ok (.aload_n 2, 1) := by decide +kernel
theorem d355_3446 : decode cL_law 3446 = .ok (.invokevirtual 360, 3) := by decide +kernel
theorem d355_3449 : decode cL_law 3449 = .ok (.if_icmp .eq 117, 3) := by decide +kernel
theorem d355_3452 : decode cL_law 3452 = .ok (.iconst 0, 1) := by decide +kernel
theorem d355_3453 : decode cL_law 3453 = .ok (.ireturn, 1) := by decide +kernel
theorem d355_3454 : decode cL_law 3454 = .ok (.aload_n 1, 1) := by decide +kernel
theorem d355_3455 : decode cL_law 3455 = .ok (.aload_n 0, 1) := by decide +kernel
theorem d355_3456 : decode cL_law 3456 = .ok (.iload 5, 2) := by decide +kernel
theorem d355_3458 : decode cL_law 3458 = .ok (.iconst 1, 1) := by decide +kernel
theorem d355_3459 : decode cL_law 3459 = .ok (.iadd, 1) := by decide +kernel
theorem d355_3460 : decode cL_law 3460 = .ok (.iaload, 1) := by decide +kernel
theorem d355_3461 : decode cL_law 3461 = .ok (.aload_n 3, 1) := by decide +kernel
theorem d355_3462 : decode cL_law 3462 = .ok (.invokestatic 361, 3) := by decide +kernel
theorem d355_3465 : decode cL_law 3465 = .ok (.istore 6, 2) := by decide +kernel
theorem d355_3467 : decode cL_law 3467 = .ok (.aload_n 2, 1) := by decide +kernel
theorem d355_3468 : decode cL_law 3468 = .ok (.aload_n 0, 1) := by decide +kernel
theorem d355_3469 : decode cL_law 3469 = .ok (.iload 5, 2) := by decide +kernel
theorem d355_3471 : decode cL_law 3471 = .ok (.iconst 1, 1) := by decide +kernel
theorem d355_3472 : decode cL_law 3472 = .ok (.iadd, 1) := by decide +kernel
theorem d355_3473 : decode cL_law 3473 = .ok (.iaload, 1) := by decide +kernel
theorem d355_3474 : decode cL_law 3474 = .ok (.invokevirtual 363, 3) := by decide +kernel
theorem d355_3477 : decode cL_law 3477 = .ok (.istore 7, 2) := by decide +kernel
theorem d355_3479 : decode cL_law 3479 = .ok (.aload_n 2, 1) := by decide +kernel
theorem d355_3480 : decode cL_law 3480 = .ok (.invokevirtual 194, 3) := by decide +kernel
theorem d355_3483 : decode cL_law 3483 = .ok (.iload 6, 2) := by decide +kernel
theorem d355_3485 : decode cL_law 3485 = .ok (.if_icmp .eq 5, 3) := by decide +kernel
theorem d355_3488 : decode cL_law 3488 = .ok (.iconst 0, 1) := by decide +kernel
theorem d355_3489 : decode cL_law 3489 = .ok (.ireturn, 1) := by decide +kernel
theorem d355_3490 : decode cL_law 3490 = .ok (.iload 6, 2) := by decide +kernel
theorem d355_3492 : decode cL_law 3492 = .ok (.ifCond .ne 15, 3) := by decide +kernel
theorem d355_3495 : decode cL_law 3495 = .ok (.aload_n 3, 1) := by decide +kernel
theorem d355_3496 : decode cL_law 3496 = .ok (.iconst 0, 1) := by decide +kernel
theorem d355_3497 : decode cL_law 3497 = .ok (.laload, 1) := by decide +kernel
theorem d355_3498 : decode cL_law 3498 = .ok (.iload 7, 2) := by decide +kernel
theorem d355_3500 : decode cL_law 3500 = .ok (.i2l, 1) := by decide +kernel
theorem d355_3501 : decode cL_law 3501 = .ok (.lcmp, 1) := by decide +kernel
theorem d355_3502 : decode cL_law 3502 = .ok (.ifCond .eq 5, 3) := by decide +kernel
theorem d355_3505 : decode cL_law 3505 = .ok (.iconst 0, 1) := by decide +kernel
theorem d355_3506 : decode cL_law 3506 = .ok (.ireturn, 1) := by decide +kernel
theorem d355_3507 : decode cL_law 3507 = .ok (.goto 59, 3) := by decide +kernel
theorem d355_3510 : decode cL_law 3510 = .ok (.aload_n 1, 1) := by decide +kernel
theorem d355_3511 : decode cL_law 3511 = .ok (.aload_n 0, 1) := by decide +kernel
theorem d355_3512 : decode cL_law 3512 = .ok (.iload 5, 2) := by decide +kernel
theorem d355_3514 : decode cL_law 3514 = .ok (.iconst 1, 1) := by decide +kernel
theorem d355_3515 : decode cL_law 3515 = .ok (.iadd, 1) := by decide +kernel
theorem d355_3516 : decode cL_law 3516 = .ok (.iaload, 1) := by decide +kernel
theorem d355_3517 : decode cL_law 3517 = .ok (.aload_n 3, 1) := by decide +kernel
theorem d355_3518 : decode cL_law 3518 = .ok (.invokestatic 364, 3) := by decide +kernel
theorem d355_3521 : decode cL_law 3521 = .ok (.istore 6, 2) := by decide +kernel
theorem d355_3523 : decode cL_law 3523 = .ok (.aload_n 2, 1) := by decide +kernel
theorem d355_3524 : decode cL_law 3524 = .ok (.aload_n 0, 1) := by decide +kernel
theorem d355_3525 : decode cL_law 3525 = .ok (.iload 5, 2) := by decide +kernel
theorem d355_3527 : decode cL_law 3527 = .ok (.iconst 1, 1) := by decide +kernel
theorem d355_3528 : decode cL_law 3528 = .ok (.iadd, 1) := by decide +kernel
theorem d355_3529 : decode cL_law 3529 = .ok (.iaload, 1) := by decide +kernel
theorem d355_3530 : decode cL_law 3530 = .ok (.invokevirtual 366, 3) := by decide +kernel
theorem d355_3533 : decode cL_law 3533 = .ok (.istore 7, 2) := by decide +kernel
theorem d355_3535 : decode cL_law 3535 = .ok (.aload_n 2, 1) := by decide +kernel
theorem d355_3536 : decode cL_law 3536 = .ok (.invokevirtual 194, 3) := by decide +kernel
theorem d355_3539 : decode cL_law 3539 = .ok (.iload 6, 2) := by decide +kernel
theorem d355_3541 : decode cL_law 3541 = .ok (.if_icmp .eq 5, 3) := by decide +kernel
theorem d355_3544 : decode cL_law 3544 = .ok (.iconst 0, 1) := by decide +kernel
theorem d355_3545 : decode cL_law 3545 = .ok (.ireturn, 1) := by decide +kernel
theorem d355_3546 : decode cL_law 3546 = .ok (.iload 6, 2) := by decide +kernel
theorem d355_3548 : decode cL_law 3548 = .ok (.ifCond .ne 15, 3) := by decide +kernel
theorem d355_3551 : decode cL_law 3551 = .ok (.aload_n 3, 1) := by decide +kernel
theorem d355_3552 : decode cL_law 3552 = .ok (.iconst 0, 1) := by decide +kernel
theorem d355_3553 : decode cL_law 3553 = .ok (.laload, 1) := by decide +kernel
theorem d355_3554 : decode cL_law 3554 = .ok (.iload 7, 2) := by decide +kernel
theorem d355_3556 : decode cL_law 3556 = .ok (.i2l, 1) := by decide +kernel
theorem d355_3557 : decode cL_law 3557 = .ok (.lcmp, 1) := by decide +kernel
theorem d355_3558 : decode cL_law 3558 = .ok (.ifCond .eq 5, 3) := by decide +kernel
theorem d355_3561 : decode cL_law 3561 = .ok (.iconst 0, 1) := by decide +kernel
theorem d355_3562 : decode cL_law 3562 = .ok (.ireturn, 1) := by decide +kernel
theorem d355_3563 : decode cL_law 3563 = .ok (.goto 3, 3) := by decide +kernel
theorem d355_3566 : decode cL_law 3566 = .ok (.iinc 5 5, 3) := by decide +kernel
theorem d355_3569 : decode cL_law 3569 = .ok (.goto (-3541), 3) := by decide +kernel
theorem d355_3572 : decode cL_law 3572 = .ok (.iconst 1, 1) := by decide +kernel
theorem d355_3573 : decode cL_law 3573 = .ok (.ireturn, 1) := by decide +kernel
theorem v355_28 {w : PW} {Q : PO → PW → Prop} {sn : Nat} {sf : Nat → Int32} {x5 : Int} {o6 : Option Value} {o7 : Option Value} {o8 : Option Value} {o9 : Option Value} (hs : Sh w) (hsn : Nat.blt sn 2147483648 = true) (hx5 : bd x5) (ho9 : pc2 o9 = false) (h : (Sc w sn sf) ∧ (bd (((sn : Int)) - 5)) ∧ ((((sn : Int)) - 5) < x5 → Q (.inl (some (iv 1))) w) ∧ (x5 ≤ (((sn : Int)) - 5) → (Sc w sn sf) ∧ (0 ≤ x5 ∧ x5 < sn) ∧ ((iAnd ((sf x5.toNat).toInt) 63) < 0 ∨ 57 < (iAnd ((sf x5.toNat).toInt) 63) → pX 355 3566 [some (.ref pSC), some (.ref 0), some (.ref 169), some (.ref 180), some (.ref 181), some (iv x5), o6, o7, o8, o9] [] w Q) ∧ ((iAnd ((sf x5.toNat).toInt) 63) = 0 → pX 355 292 [some (.ref pSC), some (.ref 0), some (.ref 169), some (.ref 180), some (.ref 181), some (iv x5), o6, o7, o8, o9] [] w Q) ∧ ((iAnd ((sf x5.toNat).toInt) 63) = 1 → pX 355 349 [some (.ref pSC), some (.ref 0), some (.ref 169), some (.ref 180), some (.ref 181), some (iv x5), o6, o7, o8, o9] [] w Q) ∧ ((iAnd ((sf x5.toNat).toInt) 63) = 2 → pX 355 362 [some (.ref pSC), some (.ref 0), some (.ref 169), some (.ref 180), some (.ref 181), some (iv x5), o6, o7, o8, o9] [] w Q) ∧ ((iAnd ((sf x5.toNat).toInt) 63) = 3 → pX 355 375 [some (.ref pSC), some (.ref 0), some (.ref 169), some (.ref 180), some (.ref 181), some (iv x5), o6, o7, o8, o9] [] w Q) ∧ ((iAnd ((sf x5.toNat).toInt) 63) = 4 → pX 355 388 [some (.ref pSC), some (.ref 0), some (.ref 169), some (.ref 180), some (.ref 181), some (iv x5), o6, o7, o8, o9] [] w Q) ∧ ((iAnd ((sf x5.toNat).toInt) 63) = 5 → pX 355 444 [some (.ref pSC), some (.ref 0), some (.ref 169), some (.ref 180), some (.ref 181), some (iv x5), o6, o7, o8, o9] [] w Q) ∧ ((iAnd ((sf x5.toNat).toInt) 63) = 6 → pX 355 512 [some (.ref pSC), some (.ref 0), some (.ref 169), some (.ref 180), some (.ref 181), some (iv x5), o6, o7, o8, o9] [] w Q) ∧ ((iAnd ((sf x5.toNat).toInt) 63) = 7 → pX 355 580 [some (.ref pSC), some (.ref 0), some (.ref 169), some (.ref 180), some (.ref 181), some (iv x5), o6, o7, o8, o9] [] w Q) ∧ ((iAnd ((sf x5.toNat).toInt) 63) = 8 → pX 355 667 [some (.ref pSC), some (.ref 0), some (.ref 169), some (.ref 180), some (.ref 181), some (iv x5), o6, o7, o8, o9] [] w Q) ∧ ((iAnd ((sf x5.toNat).toInt) 63) = 9 → pX 355 747 [some (.ref pSC), some (.ref 0), some (.ref 169), some (.ref 180), some (.ref 181), some (iv x5), o6, o7, o8, o9] [] w Q) ∧ ((iAnd ((sf x5.toNat).toInt) 63) = 10 → pX 355 815 [some (.ref pSC), some (.ref 0), some (.ref 169), some (.ref 180), some (.ref 181), some (iv x5), o6, o7, o8, o9] [] w Q) ∧ ((iAnd ((sf x5.toNat).toInt) 63) = 11 → pX 355 871 [some (.ref pSC), some (.ref 0), some (.ref 169), some (.ref 180), some (.ref 181), some (iv x5), o6, o7, o8, o9] [] w Q) ∧ ((iAnd ((sf x5.toNat).toInt) 63) = 12 → pX 355 927 [some (.ref pSC), some (.ref 0), some (.ref 169), some (.ref 180), some (.ref 181), some (iv x5), o6, o7, o8, o9] [] w Q) ∧ ((iAnd ((sf x5.toNat).toInt) 63) = 13 → pX 355 1007 [some (.ref pSC), some (.ref 0), some (.ref 169), some (.ref 180), some (.ref 181), some (iv x5), o6, o7, o8, o9] [] w Q) ∧ ((iAnd ((sf x5.toNat).toInt) 63) = 14 → pX 355 1075 [some (.ref pSC), some (.ref 0), some (.ref 169), some (.ref 180), some (.ref 181), some (iv x5), o6, o7, o8, o9] [] w Q) ∧ ((iAnd ((sf x5.toNat).toInt) 63) = 15 → pX 355 1131 [some (.ref pSC), some (.ref 0), some (.ref 169), some (.ref 180), some (.ref 181), some (iv x5), o6, o7, o8, o9] [] w Q) ∧ ((iAnd ((sf x5.toNat).toInt) 63) = 16 → pX 355 1187 [some (.ref pSC), some (.ref 0), some (.ref 169), some (.ref 180), some (.ref 181), some (iv x5), o6, o7, o8, o9] [] w Q) ∧ ((iAnd ((sf x5.toNat).toInt) 63) = 17 → pX 355 1250 [some (.ref pSC), some (.ref 0), some (.ref 169), some (.ref 180), some (.ref 181), some (iv x5), o6, o7, o8, o9] [] w Q) ∧ ((iAnd ((sf x5.toNat).toInt) 63) = 18 → pX 355 1306 [some (.ref pSC), some (.ref 0), some (.ref 169), some (.ref 180), some (.ref 181), some (iv x5), o6, o7, o8, o9] [] w Q) ∧ ((iAnd ((sf x5.toNat).toInt) 63) = 19 → pX 355 1362 [some (.ref pSC), some (.ref 0), some (.ref 169), some (.ref 180), some (.ref 181), some (iv x5), o6, o7, o8, o9] [] w Q) ∧ ((iAnd ((sf x5.toNat).toInt) 63) = 20 → pX 355 1418 [some (.ref pSC), some (.ref 0), some (.ref 169), some (.ref 180), some (.ref 181), some (iv x5), o6, o7, o8, o9] [] w Q) ∧ ((iAnd ((sf x5.toNat).toInt) 63) = 21 → pX 355 1474 [some (.ref pSC), some (.ref 0), some (.ref 169), some (.ref 180), some (.ref 181), some (iv x5), o6, o7, o8, o9] [] w Q) ∧ ((iAnd ((sf x5.toNat).toInt) 63) = 22 → pX 355 1530 [some (.ref pSC), some (.ref 0), some (.ref 169), some (.ref 180), some (.ref 181), some (iv x5), o6, o7, o8, o9] [] w Q) ∧ ((iAnd ((sf x5.toNat).toInt) 63) = 23 → pX 355 1586 [some (.ref pSC), some (.ref 0), some (.ref 169), some (.ref 180), some (.ref 181), some (iv x5), o6, o7, o8, o9] [] w Q) ∧ ((iAnd ((sf x5.toNat).toInt) 63) = 24 → pX 355 1642 [some (.ref pSC), some (.ref 0), some (.ref 169), some (.ref 180), some (.ref 181), some (iv x5), o6, o7, o8, o9] [] w Q) ∧ ((iAnd ((sf x5.toNat).toInt) 63) = 25 → pX 355 1698 [some (.ref pSC), some (.ref 0), some (.ref 169), some (.ref 180), some (.ref 181), some (iv x5), o6, o7, o8, o9] [] w Q) ∧ ((iAnd ((sf x5.toNat).toInt) 63) = 26 → pX 355 1766 [some (.ref pSC), some (.ref 0), some (.ref 169), some (.ref 180), some (.ref 181), some (iv x5), o6, o7, o8, o9] [] w Q) ∧ ((iAnd ((sf x5.toNat).toInt) 63) = 27 → pX 355 1822 [some (.ref pSC), some (.ref 0), some (.ref 169), some (.ref 180), some (.ref 181), some (iv x5), o6, o7, o8, o9] [] w Q) ∧ ((iAnd ((sf x5.toNat).toInt) 63) = 28 → pX 355 1902 [some (.ref pSC), some (.ref 0), some (.ref 169), some (.ref 180), some (.ref 181), some (iv x5), o6, o7, o8, o9] [] w Q) ∧ ((iAnd ((sf x5.toNat).toInt) 63) = 29 → pX 355 1958 [some (.ref pSC), some (.ref 0), some (.ref 169), some (.ref 180), some (.ref 181), some (iv x5), o6, o7, o8, o9] [] w Q) ∧ ((iAnd ((sf x5.toNat).toInt) 63) = 30 → pX 355 2026 [some (.ref pSC), some (.ref 0), some (.ref 169), some (.ref 180), some (.ref 181), some (iv x5), o6, o7, o8, o9] [] w Q) ∧ ((iAnd ((sf x5.toNat).toInt) 63) = 31 → pX 355 2082 [some (.ref pSC), some (.ref 0), some (.ref 169), some (.ref 180), some (.ref 181), some (iv x5), o6, o7, o8, o9] [] w Q) ∧ ((iAnd ((sf x5.toNat).toInt) 63) = 32 → pX 355 2138 [some (.ref pSC), some (.ref 0), some (.ref 169), some (.ref 180), some (.ref 181), some (iv x5), o6, o7, o8, o9] [] w Q) ∧ ((iAnd ((sf x5.toNat).toInt) 63) = 33 → pX 355 2151 [some (.ref pSC), some (.ref 0), some (.ref 169), some (.ref 180), some (.ref 181), some (iv x5), o6, o7, o8, o9] [] w Q) ∧ ((iAnd ((sf x5.toNat).toInt) 63) = 34 → pX 355 2164 [some (.ref pSC), some (.ref 0), some (.ref 169), some (.ref 180), some (.ref 181), some (iv x5), o6, o7, o8, o9] [] w Q) ∧ ((iAnd ((sf x5.toNat).toInt) 63) = 35 → pX 355 2177 [some (.ref pSC), some (.ref 0), some (.ref 169), some (.ref 180), some (.ref 181), some (iv x5), o6, o7, o8, o9] [] w Q) ∧ ((iAnd ((sf x5.toNat).toInt) 63) = 36 → pX 355 2257 [some (.ref pSC), some (.ref 0), some (.ref 169), some (.ref 180), some (.ref 181), some (iv x5), o6, o7, o8, o9] [] w Q) ∧ ((iAnd ((sf x5.toNat).toInt) 63) = 37 → pX 355 2313 [some (.ref pSC), some (.ref 0), some (.ref 169), some (.ref 180), some (.ref 181), some (iv x5), o6, o7, o8, o9] [] w Q) ∧ ((iAnd ((sf x5.toNat).toInt) 63) = 38 → pX 355 2381 [some (.ref pSC), some (.ref 0), some (.ref 169), some (.ref 180), some (.ref 181), some (iv x5), o6, o7, o8, o9] [] w Q) ∧ ((iAnd ((sf x5.toNat).toInt) 63) = 39 → pX 355 2449 [some (.ref pSC), some (.ref 0), some (.ref 169), some (.ref 180), some (.ref 181), some (iv x5), o6, o7, o8, o9] [] w Q) ∧ ((iAnd ((sf x5.toNat).toInt) 63) = 40 → pX 355 2517 [some (.ref pSC), some (.ref 0), some (.ref 169), some (.ref 180), some (.ref 181), some (iv x5), o6, o7, o8, o9] [] w Q) ∧ ((iAnd ((sf x5.toNat).toInt) 63) = 41 → pX 355 2632 [some (.ref pSC), some (.ref 0), some (.ref 169), some (.ref 180), some (.ref 181), some (iv x5), o6, o7, o8, o9] [] w Q) ∧ ((iAnd ((sf x5.toNat).toInt) 63) = 42 → pX 355 2688 [some (.ref pSC), some (.ref 0), some (.ref 169), some (.ref 180), some (.ref 181), some (iv x5), o6, o7, o8, o9] [] w Q) ∧ ((iAnd ((sf x5.toNat).toInt) 63) = 43 → pX 355 2744 [some (.ref pSC), some (.ref 0), some (.ref 169), some (.ref 180), some (.ref 181), some (iv x5), o6, o7, o8, o9] [] w Q) ∧ ((iAnd ((sf x5.toNat).toInt) 63) = 44 → pX 355 2812 [some (.ref pSC), some (.ref 0), some (.ref 169), some (.ref 180), some (.ref 181), some (iv x5), o6, o7, o8, o9] [] w Q) ∧ ((iAnd ((sf x5.toNat).toInt) 63) = 45 → pX 355 2880 [some (.ref pSC), some (.ref 0), some (.ref 169), some (.ref 180), some (.ref 181), some (iv x5), o6, o7, o8, o9] [] w Q) ∧ ((iAnd ((sf x5.toNat).toInt) 63) = 46 → pX 355 2936 [some (.ref pSC), some (.ref 0), some (.ref 169), some (.ref 180), some (.ref 181), some (iv x5), o6, o7, o8, o9] [] w Q) ∧ ((iAnd ((sf x5.toNat).toInt) 63) = 47 → pX 355 2992 [some (.ref pSC), some (.ref 0), some (.ref 169), some (.ref 180), some (.ref 181), some (iv x5), o6, o7, o8, o9] [] w Q) ∧ ((iAnd ((sf x5.toNat).toInt) 63) = 48 → pX 355 3048 [some (.ref pSC), some (.ref 0), some (.ref 169), some (.ref 180), some (.ref 181), some (iv x5), o6, o7, o8, o9] [] w Q) ∧ ((iAnd ((sf x5.toNat).toInt) 63) = 49 → pX 355 3104 [some (.ref pSC), some (.ref 0), some (.ref 169), some (.ref 180), some (.ref 181), some (iv x5), o6, o7, o8, o9] [] w Q) ∧ ((iAnd ((sf x5.toNat).toInt) 63) = 50 → pX 355 3160 [some (.ref pSC), some (.ref 0), some (.ref 169), some (.ref 180), some (.ref 181), some (iv x5), o6, o7, o8, o9] [] w Q) ∧ ((iAnd ((sf x5.toNat).toInt) 63) = 51 → pX 355 3237 [some (.ref pSC), some (.ref 0), some (.ref 169), some (.ref 180), some (.ref 181), some (iv x5), o6, o7, o8, o9] [] w Q) ∧ ((iAnd ((sf x5.toNat).toInt) 63) = 52 → pX 355 3280 [some (.ref pSC), some (.ref 0), some (.ref 169), some (.ref 180), some (.ref 181), some (iv x5), o6, o7, o8, o9] [] w Q) ∧ ((iAnd ((sf x5.toNat).toInt) 63) = 53 → pX 355 3348 [some (.ref pSC), some (.ref 0), some (.ref 169), some (.ref 180), some (.ref 181), some (iv x5), o6, o7, o8, o9] [] w Q) ∧ ((iAnd ((sf x5.toNat).toInt) 63) = 54 → pX 355 3416 [some (.ref pSC), some (.ref 0), some (.ref 169), some (.ref 180), some (.ref 181), some (iv x5), o6, o7, o8, o9] [] w Q) ∧ ((iAnd ((sf x5.toNat).toInt) 63) = 55 → pX 355 3441 [some (.ref pSC), some (.ref 0), some (.ref 169), some (.ref 180), some (.ref 181), some (iv x5), o6, o7, o8, o9] [] w Q) ∧ ((iAnd ((sf x5.toNat).toInt) 63) = 56 → pX 355 3454 [some (.ref pSC), some (.ref 0), some (.ref 169), some (.ref 180), some (.ref 181), some (iv x5), o6, o7, o8, o9] [] w Q) ∧ ((iAnd ((sf x5.toNat).toInt) 63) = 57 → pX 355 3510 [some (.ref pSC), some (.ref 0), some (.ref 169), some (.ref 180), some (.ref 181), some (iv x5), o6, o7, o8, o9] [] w Q))) : pX 355 28 [some (.ref pSC), some (.ref 0), some (.ref 169), some (.ref 180), some (.ref 181), some (iv x5), o6, o7, o8, o9] [] w Q :=
  w_f b355 d355_28 rfl rfl rfl <| w_f b355 d355_30 rfl rfl rfl <| w_scn b355 d355_31 rfl h.1 <| w_f b355 d355_32 rfl rfl rfl <| w_f b355 d355_33 rfl (pf_isub ((sn : Int)) 5) rfl <| w_icgt b355 d355_34 rfl rfl (by decide +kernel) hx5 h.2.1 (fun c1 => w_f b355 d355_3572 rfl rfl rfl <| w_rz b355 d355_3573 r355 (by decide) (h.2.2.1 c1)) (fun c1 => w_f b355 d355_37 rfl rfl rfl <| w_f b355 d355_38 rfl rfl rfl <| w_scl b355 d355_40 rfl (h.2.2.2 c1).1 (bdix (n := sn) (h.2.2.2 c1).2.1 hsn) (h.2.2.2 c1).2.1 <| w_f b355 d355_41 rfl rfl rfl <| w_f b355 d355_43 rfl (pf_iand ((sf x5.toNat).toInt) 63) rfl <| Decidable.byCases (p := (iAnd ((sf x5.toNat).toInt) 63) < 0 ∨ 57 < (iAnd ((sf x5.toNat).toInt) 63)) (fun c2 => w_tsO b355 d355_44 rfl (by decide +kernel) (bd_toInt _) c2 <| ((h.2.2.2 c1).2.2.1 c2)) (fun cz => Decidable.byCases (p := (iAnd ((sf x5.toNat).toInt) 63) = 0) (fun c2 => w_tsI (off := 248) b355 d355_44 rfl (by decide +kernel) (bd_toInt _) cz (by rw [c2]; rfl) <| ((h.2.2.2 c1).2.2.2.1 c2)) (fun cn0 => Decidable.byCases (p := (iAnd ((sf x5.toNat).toInt) 63) = 1) (fun c2 => w_tsI (off := 305) b355 d355_44 rfl (by decide +kernel) (bd_toInt _) cz (by rw [c2]; rfl) <| ((h.2.2.2 c1).2.2.2.2.1 c2)) (fun cn1 => Decidable.byCases (p := (iAnd ((sf x5.toNat).toInt) 63) = 2) (fun c2 => w_tsI (off := 318) b355 d355_44 rfl (by decide +kernel) (bd_toInt _) cz (by rw [c2]; rfl) <| ((h.2.2.2 c1).2.2.2.2.2.1 c2)) (fun cn2 => Decidable.byCases (p := (iAnd ((sf x5.toNat).toInt) 63) = 3) (fun c2 => w_tsI (off := 331) b355 d355_44 rfl (by decide +kernel) (bd_toInt _) cz (by rw [c2]; rfl) <| ((h.2.2.2 c1).2.2.2.2.2.2.1 c2)) (fun cn3 => Decidable.byCases (p := (iAnd ((sf x5.toNat).toInt) 63) = 4) (fun c2 => w_tsI (off := 344) b355 d355_44 rfl (by decide +kernel) (bd_toInt _) cz (by rw [c2]; rfl) <| ((h.2.2.2 c1).2.2.2.2.2.2.2.1 c2)) (fun cn4 => Decidable.byCases (p := (iAnd ((sf x5.toNat).toInt) 63) = 5) (fun c2 => w_tsI (off := 400) b355 d355_44 rfl (by decide +kernel) (bd_toInt _) cz (by rw [c2]; rfl) <| ((h.2.2.2 c1).2.2.2.2.2.2.2.2.1 c2)) (fun cn5 => Decidable.byCases (p := (iAnd ((sf x5.toNat).toInt) 63) = 6) (fun c2 => w_tsI (off := 468) b355 d355_44 rfl (by decide +kernel) (bd_toInt _) cz (by rw [c2]; rfl) <| ((h.2.2.2 c1).2.2.2.2.2.2.2.2.2.1 c2)) (fun cn6 => Decidable.byCases (p := (iAnd ((sf x5.toNat).toInt) 63) = 7) (fun c2 => w_tsI (off := 536) b355 d355_44 rfl (by decide +kernel) (bd_toInt _) cz (by rw [c2]; rfl) <| ((h.2.2.2 c1).2.2.2.2.2.2.2.2.2.2.1 c2)) (fun cn7 => Decidable.byCases (p := (iAnd ((sf x5.toNat).toInt) 63) = 8) (fun c2 => w_tsI (off := 623) b355 d355_44 rfl (by decide +kernel) (bd_toInt _) cz (by rw [c2]; rfl) <| ((h.2.2.2 c1).2.2.2.2.2.2.2.2.2.2.2.1 c2)) (fun cn8 => Decidable.byCases (p := (iAnd ((sf x5.toNat).toInt) 63) = 9) (fun c2 => w_tsI (off := 703) b355 d355_44 rfl (by decide +kernel) (bd_toInt _) cz (by rw [c2]; rfl) <| ((h.2.2.2 c1).2.2.2.2.2.2.2.2.2.2.2.2.1 c2)) (fun cn9 => Decidable.byCases (p := (iAnd ((sf x5.toNat).toInt) 63) = 10) (fun c2 => w_tsI (off := 771) b355 d355_44 rfl (by decide +kernel) (bd_toInt _) cz (by rw [c2]; rfl) <| ((h.2.2.2 c1).2.2.2.2.2.2.2.2.2.2.2.2.2.1 c2)) (fun cn10 => Decidable.byCases (p := (iAnd ((sf x5.toNat).toInt) 63) = 11) (fun c2 => w_tsI (off := 827) b355 d355_44 rfl (by decide +kernel) (bd_toInt _) cz (by rw [c2]; rfl) <| ((h.2.2.2 c1).2.2.2.2.2.2.2.2.2.2.2.2.2.2.1 c2)) (fun cn11 => Decidable.byCases (p := (iAnd ((sf x5.toNat).toInt) 63) = 12) (fun c2 => w_tsI (off := 883) b355 d355_44 rfl (by decide +kernel) (bd_toInt _) cz (by rw [c2]; rfl) <| ((h.2.2.2 c1).2.2.2.2.2.2.2.2.2.2.2.2.2.2.2.1 c2)) (fun cn12 => Decidable.byCases (p := (iAnd ((sf x5.toNat).toInt) 63) = 13) (fun c2 => w_tsI (off := 963) b355 d355_44 rfl (by decide +kernel) (bd_toInt _) cz (by rw [c2]; rfl) <| ((h.2.2.2 c1).2.2.2.2.2.2.2.2.2.2.2.2.2.2.2.2.1 c2)) (fun cn13 => Decidable.byCases (p := (iAnd ((sf x5.toNat).toInt) 63) = 14) (fun c2 => w_tsI (off := 1031) b355 d355_44 rfl (by decide +kernel) (bd_toInt _) cz (by rw [c2]; rfl) <| ((h.2.2.2 c1).2.2.2.2.2.2.2.2.2.2.2.2.2.2.2.2.2.1 c2)) (fun cn14 => Decidable.byCases (p := (iAnd ((sf x5.toNat).toInt) 63) = 15) (fun c2 => w_tsI (off := 1087) b355 d355_44 rfl (by decide +kernel) (bd_toInt _) cz (by rw [c2]; rfl) <| ((h.2.2.2 c1).2.2.2.2.2.2.2.2.2.2.2.2.2.2.2.2.2.2.1 c2)) (fun cn15 => Decidable.byCases (p := (iAnd ((sf x5.toNat).toInt) 63) = 16) (fun c2 => w_tsI (off := 1143) b355 d355_44 rfl (by decide +kernel) (bd_toInt _) cz (by rw [c2]; rfl) <| ((h.2.2.2 c1).2.2.2.2.2.2.2.2.2.2.2.2.2.2.2.2.2.2.2.1 c2)) (fun cn16 => Decidable.byCases (p := (iAnd ((sf x5.toNat).toInt) 63) = 17) (fun c2 => w_tsI (off := 1206) b355 d355_44 rfl (by decide +kernel) (bd_toInt _) cz (by rw [c2]; rfl) <| ((h.2.2.2 c1).2.2.2.2.2.2.2.2.2.2.2.2.2.2.2.2.2.2.2.2.1 c2)) (fun cn17 => Decidable.byCases (p := (iAnd ((sf x5.toNat).toInt) 63) = 18) (fun c2 => w_tsI (off := 1262) b355 d355_44 rfl (by decide +kernel) (bd_toInt _) cz (by rw [c2]; rfl) <| ((h.2.2.2 c1).2.2.2.2.2.2.2.2.2.2.2.2.2.2.2.2.2.2.2.2.2.1 c2)) (fun cn18 => Decidable.byCases (p := (iAnd ((sf x5.toNat).toInt) 63) = 19) (fun c2 => w_tsI (off := 1318) b355 d355_44 rfl (by decide +kernel) (bd_toInt _) cz (by rw [c2]; rfl) <| ((h.2.2.2 c1).2.2.2.2.2.2.2.2.2.2.2.2.2.2.2.2.2.2.2.2.2.2.1 c2)) (fun cn19 => Decidable.byCases (p := (iAnd ((sf x5.toNat).toInt) 63) = 20) (fun c2 => w_tsI (off := 1374) b355 d355_44 rfl (by decide +kernel) (bd_toInt _) cz (by rw [c2]; rfl) <| ((h.2.2.2 c1).2.2.2.2.2.2.2.2.2.2.2.2.2.2.2.2.2.2.2.2.2.2.2.1 c2)) (fun cn20 => Decidable.byCases (p := (iAnd ((sf x5.toNat).toInt) 63) = 21) (fun c2 => w_tsI (off := 1430) b355 d355_44 rfl (by decide +kernel) (bd_toInt _) cz (by rw [c2]; rfl) <| ((h.2.2.2 c1).2.2.2.2.2.2.2.2.2.2.2.2.2.2.2.2.2.2.2.2.2.2.2.2.1 c2)) (fun cn21 => Decidable.byCases (p := (iAnd ((sf x5.toNat).toInt) 63) = 22) (fun c2 => w_tsI (off := 1486) b355 d355_44 rfl (by decide +kernel) (bd_toInt _) cz (by rw [c2]; rfl) <| ((h.2.2.2 c1).2.2.2.2.2.2.2.2.2.2.2.2.2.2.2.2.2.2.2.2.2.2.2.2.2.1 c2)) (fun cn22 => Decidable.byCases (p := (iAnd ((sf x5.toNat).toInt) 63) = 23) (fun c2 => w_tsI (off := 1542) b355 d355_44 rfl (by decide +kernel) (bd_toInt _) cz (by rw [c2]; rfl) <| ((h.2.2.2 c1).2.2.2.2.2.2.2.2.2.2.2.2.2.2.2.2.2.2.2.2.2.2.2.2.2.2.1 c2)) (fun cn23 => Decidable.byCases (p := (iAnd ((sf x5.toNat).toInt) 63) = 24) (fun c2 => w_tsI (off := 1598) b355 d355_44 rfl (by decide +kernel) (bd_toInt _) cz (by rw [c2]; rfl) <| ((h.2.2.2 c1).2.2.2.2.2.2.2.2.2.2.2.2.2.2.2.2.2.2.2.2.2.2.2.2.2.2.2.1 c2)) (fun cn24 => Decidable.byCases (p := (iAnd ((sf x5.toNat).toInt) 63) = 25) (fun c2 => w_tsI (off := 1654) b355 d355_44 rfl (by decide +kernel) (bd_toInt _) cz (by rw [c2]; rfl) <| ((h.2.2.2 c1).2.2.2.2.2.2.2.2.2.2.2.2.2.2.2.2.2.2.2.2.2.2.2.2.2.2.2.2.1 c2)) (fun cn25 => Decidable.byCases (p := (iAnd ((sf x5.toNat).toInt) 63) = 26) (fun c2 => w_tsI (off := 1722) b355 d355_44 rfl (by decide +kernel) (bd_toInt _) cz (by rw [c2]; rfl) <| ((h.2.2.2 c1).2.2.2.2.2.2.2.2.2.2.2.2.2.2.2.2.2.2.2.2.2.2.2.2.2.2.2.2.2.1 c2)) (fun cn26 => Decidable.byCases (p := (iAnd ((sf x5.toNat).toInt) 63) = 27) (fun c2 => w_tsI (off := 1778) b355 d355_44 rfl (by decide +kernel) (bd_toInt _) cz (by rw [c2]; rfl) <| ((h.2.2.2 c1).2.2.2.2.2.2.2.2.2.2.2.2.2.2.2.2.2.2.2.2.2.2.2.2.2.2.2.2.2.2.1 c2)) (fun cn27 => Decidable.byCases (p := (iAnd ((sf x5.toNat).toInt) 63) = 28) (fun c2 => w_tsI (off := 1858) b355 d355_44 rfl (by decide +kernel) (bd_toInt _) cz (by rw [c2]; rfl) <| ((h.2.2.2 c1).2.2.2.2.2.2.2.2.2.2.2.2.2.2.2.2.2.2.2.2.2.2.2.2.2.2.2.2.2.2.2.1 c2)) (fun cn28 => Decidable.byCases (p := (iAnd ((sf x5.toNat).toInt) 63) = 29) (fun c2 => w_tsI (off := 1914) b355 d355_44 rfl (by decide +kernel) (bd_toInt _) cz (by rw [c2]; rfl) <| ((h.2.2.2 c1).2.2.2.2.2.2.2.2.2.2.2.2.2.2.2.2.2.2.2.2.2.2.2.2.2.2.2.2.2.2.2.2.1 c2)) (fun cn29 => Decidable.byCases (p := (iAnd ((sf x5.toNat).toInt) 63) = 30) (fun c2 => w_tsI (off := 1982) b355 d355_44 rfl (by decide +kernel) (bd_toInt _) cz (by rw [c2]; rfl) <| ((h.2.2.2 c1).2.2.2.2.2.2.2.2.2.2.2.2.2.2.2.2.2.2.2.2.2.2.2.2.2.2.2.2.2.2.2.2.2.1 c2)) (fun cn30 => Decidable.byCases (p := (iAnd ((sf x5.toNat).toInt) 63) = 31) (fun c2 => w_tsI (off := 2038) b355 d355_44 rfl (by decide +kernel) (bd_toInt _) cz (by rw [c2]; rfl) <| ((h.2.2.2 c1).2.2.2.2.2.2.2.2.2.2.2.2.2.2.2.2.2.2.2.2.2.2.2.2.2.2.2.2.2.2.2.2.2.2.1 c2)) (fun cn31 => Decidable.byCases (p := (iAnd ((sf x5.toNat).toInt) 63) = 32) (fun c2 => w_tsI (off := 2094) b355 d355_44 rfl (by decide +kernel) (bd_toInt _) cz (by rw [c2]; rfl) <| ((h.2.2.2 c1).2.2.2.2.2.2.2.2.2.2.2.2.2.2.2.2.2.2.2.2.2.2.2.2.2.2.2.2.2.2.2.2.2.2.2.1 c2)) (fun cn32 => Decidable.byCases (p := (iAnd ((sf x5.toNat).toInt) 63) = 33) (fun c2 => w_tsI (off := 2107) b355 d355_44 rfl (by decide +kernel) (bd_toInt _) cz (by rw [c2]; rfl) <| ((h.2.2.2 c1).2.2.2.2.2.2.2.2.2.2.2.2.2.2.2.2.2.2.2.2.2.2.2.2.2.2.2.2.2.2.2.2.2.2.2.2.1 c2)) (fun cn33 => Decidable.byCases (p := (iAnd ((sf x5.toNat).toInt) 63) = 34) (fun c2 => w_tsI (off := 2120) b355 d355_44 rfl (by decide +kernel) (bd_toInt _) cz (by rw [c2]; rfl) <| ((h.2.2.2 c1).2.2.2.2.2.2.2.2.2.2.2.2.2.2.2.2.2.2.2.2.2.2.2.2.2.2.2.2.2.2.2.2.2.2.2.2.2.1 c2)) (fun cn34 => Decidable.byCases (p := (iAnd ((sf x5.toNat).toInt) 63) = 35) (fun c2 => w_tsI (off := 2133) b355 d355_44 rfl (by decide +kernel) (bd_toInt _) cz (by rw [c2]; rfl) <| ((h.2.2.2 c1).2.2.2.2.2.2.2.2.2.2.2.2.2.2.2.2.2.2.2.2.2.2.2.2.2.2.2.2.2.2.2.2.2.2.2.2.2.2.1 c2)) (fun cn35 => Decidable.byCases (p := (iAnd ((sf x5.toNat).toInt) 63) = 36) (fun c2 => w_tsI (off := 2213) b355 d355_44 rfl (by decide +kernel) (bd_toInt _) cz (by rw [c2]; rfl) <| ((h.2.2.2 c1).2.2.2.2.2.2.2.2.2.2.2.2.2.2.2.2.2.2.2.2.2.2.2.2.2.2.2.2.2.2.2.2.2.2.2.2.2.2.2.1 c2)) (fun cn36 => Decidable.byCases (p := (iAnd ((sf x5.toNat).toInt) 63) = 37) (fun c2 => w_tsI (off := 2269) b355 d355_44 rfl (by decide +kernel) (bd_toInt _) cz (by rw [c2]; rfl) <| ((h.2.2.2 c1).2.2.2.2.2.2.2.2.2.2.2.2.2.2.2.2.2.2.2.2.2.2.2.2.2.2.2.2.2.2.2.2.2.2.2.2.2.2.2.2.1 c2)) (fun cn37 => Decidable.byCases (p := (iAnd ((sf x5.toNat).toInt) 63) = 38) (fun c2 => w_tsI (off := 2337) b355 d355_44 rfl (by decide +kernel) (bd_toInt _) cz (by rw [c2]; rfl) <| ((h.2.2.2 c1).2.2.2.2.2.2.2.2.2.2.2.2.2.2.2.2.2.2.2.2.2.2.2.2.2.2.2.2.2.2.2.2.2.2.2.2.2.2.2.2.2.1 c2)) (fun cn38 => Decidable.byCases (p := (iAnd ((sf x5.toNat).toInt) 63) = 39) (fun c2 => w_tsI (off := 2405) b355 d355_44 rfl (by decide +kernel) (bd_toInt _) cz (by rw [c2]; rfl) <| ((h.2.2.2 c1).2.2.2.2.2.2.2.2.2.2.2.2.2.2.2.2.2.2.2.2.2.2.2.2.2.2.2.2.2.2.2.2.2.2.2.2.2.2.2.2.2.2.1 c2)) (fun cn39 => Decidable.byCases (p := (iAnd ((sf x5.toNat).toInt) 63) = 40) (fun c2 => w_tsI (off := 2473) b355 d355_44 rfl (by decide +kernel) (bd_toInt _) cz (by rw [c2]; rfl) <| ((h.2.2.2 c1).2.2.2.2.2.2.2.2.2.2.2.2.2.2.2.2.2.2.2.2.2.2.2.2.2.2.2.2.2.2.2.2.2.2.2.2.2.2.2.2.2.2.2.1 c2)) (fun cn40 => Decidable.byCases (p := (iAnd ((sf x5.toNat).toInt) 63) = 41) (fun c2 => w_tsI (off := 2588) b355 d355_44 rfl (by decide +kernel) (bd_toInt _) cz (by rw [c2]; rfl) <| ((h.2.2.2 c1).2.2.2.2.2.2.2.2.2.2.2.2.2.2.2.2.2.2.2.2.2.2.2.2.2.2.2.2.2.2.2.2.2.2.2.2.2.2.2.2.2.2.2.2.1 c2)) (fun cn41 => Decidable.byCases (p := (iAnd ((sf x5.toNat).toInt) 63) = 42) (fun c2 => w_tsI (off := 2644) b355 d355_44 rfl (by decide +kernel) (bd_toInt _) cz (by rw [c2]; rfl) <| ((h.2.2.2 c1).2.2.2.2.2.2.2.2.2.2.2.2.2.2.2.2.2.2.2.2.2.2.2.2.2.2.2.2.2.2.2.2.2.2.2.2.2.2.2.2.2.2.2.2.2.1 c2)) (fun cn42 => Decidable.byCases (p := (iAnd ((sf x5.toNat).toInt) 63) = 43) (fun c2 => w_tsI (off := 2700) b355 d355_44 rfl (by decide +kernel) (bd_toInt _) cz (by rw [c2]; rfl) <| ((h.2.2.2 c1).2.2.2.2.2.2.2.2.2.2.2.2.2.2.2.2.2.2.2.2.2.2.2.2.2.2.2.2.2.2.2.2.2.2.2.2.2.2.2.2.2.2.2.2.2.2.1 c2)) (fun cn43 => Decidable.byCases (p := (iAnd ((sf x5.toNat).toInt) 63) = 44) (fun c2 => w_tsI (off := 2768) b355 d355_44 rfl (by decide +kernel) (bd_toInt _) cz (by rw [c2]; rfl) <| ((h.2.2.2 c1).2.2.2.2.2.2.2.2.2.2.2.2.2.2.2.2.2.2.2.2.2.2.2.2.2.2.2.2.2.2.2.2.2.2.2.2.2.2.2.2.2.2.2.2.2.2.2.1 c2)) (fun cn44 => Decidable.byCases (p := (iAnd ((sf x5.toNat).toInt) 63) = 45) (fun c2 => w_tsI (off := 2836) b355 d355_44 rfl (by decide +kernel) (bd_toInt _) cz (by rw [c2]; rfl) <| ((h.2.2.2 c1).2.2.2.2.2.2.2.2.2.2.2.2.2.2.2.2.2.2.2.2.2.2.2.2.2.2.2.2.2.2.2.2.2.2.2.2.2.2.2.2.2.2.2.2.2.2.2.2.1 c2)) (fun cn45 => Decidable.byCases (p := (iAnd ((sf x5.toNat).toInt) 63) = 46) (fun c2 => w_tsI (off := 2892) b355 d355_44 rfl (by decide +kernel) (bd_toInt _) cz (by rw [c2]; rfl) <| ((h.2.2.2 c1).2.2.2.2.2.2.2.2.2.2.2.2.2.2.2.2.2.2.2.2.2.2.2.2.2.2.2.2.2.2.2.2.2.2.2.2.2.2.2.2.2.2.2.2.2.2.2.2.2.1 c2)) (fun cn46 => Decidable.byCases (p := (iAnd ((sf x5.toNat).toInt) 63) = 47) (fun c2 => w_tsI (off := 2948) b355 d355_44 rfl (by decide +kernel) (bd_toInt _) cz (by rw [c2]; rfl) <| ((h.2.2.2 c1).2.2.2.2.2.2.2.2.2.2.2.2.2.2.2.2.2.2.2.2.2.2.2.2.2.2.2.2.2.2.2.2.2.2.2.2.2.2.2.2.2.2.2.2.2.2.2.2.2.2.1 c2)) (fun cn47 => Decidable.byCases (p := (iAnd ((sf x5.toNat).toInt) 63) = 48) (fun c2 => w_tsI (off := 3004) b355 d355_44 rfl (by decide +kernel) (bd_toInt _) cz (by rw [c2]; rfl) <| ((h.2.2.2 c1).2.2.2.2.2.2.2.2.2.2.2.2.2.2.2.2.2.2.2.2.2.2.2.2.2.2.2.2.2.2.2.2.2.2.2.2.2.2.2.2.2.2.2.2.2.2.2.2.2.2.2.1 c2)) (fun cn48 => Decidable.byCases (p := (iAnd ((sf x5.toNat).toInt) 63) = 49) (fun c2 => w_tsI (off := 3060) b355 d355_44 rfl (by decide +kernel) (bd_toInt _) cz (by rw [c2]; rfl) <| ((h.2.2.2 c1).2.2.2.2.2.2.2.2.2.2.2.2.2.2.2.2.2.2.2.2.2.2.2.2.2.2.2.2.2.2.2.2.2.2.2.2.2.2.2.2.2.2.2.2.2.2.2.2.2.2.2.2.1 c2)) (fun cn49 => Decidable.byCases (p := (iAnd ((sf x5.toNat).toInt) 63) = 50) (fun c2 => w_tsI (off := 3116) b355 d355_44 rfl (by decide +kernel) (bd_toInt _) cz (by rw [c2]; rfl) <| ((h.2.2.2 c1).2.2.2.2.2.2.2.2.2.2.2.2.2.2.2.2.2.2.2.2.2.2.2.2.2.2.2.2.2.2.2.2.2.2.2.2.2.2.2.2.2.2.2.2.2.2.2.2.2.2.2.2.2.1 c2)) (fun cn50 => Decidable.byCases (p := (iAnd ((sf x5.toNat).toInt) 63) = 51) (fun c2 => w_tsI (off := 3193) b355 d355_44 rfl (by decide +kernel) (bd_toInt _) cz (by rw [c2]; rfl) <| ((h.2.2.2 c1).2.2.2.2.2.2.2.2.2.2.2.2.2.2.2.2.2.2.2.2.2.2.2.2.2.2.2.2.2.2.2.2.2.2.2.2.2.2.2.2.2.2.2.2.2.2.2.2.2.2.2.2.2.2.1 c2)) (fun cn51 => Decidable.byCases (p := (iAnd ((sf x5.toNat).toInt) 63) = 52) (fun c2 => w_tsI (off := 3236) b355 d355_44 rfl (by decide +kernel) (bd_toInt _) cz (by rw [c2]; rfl) <| ((h.2.2.2 c1).2.2.2.2.2.2.2.2.2.2.2.2.2.2.2.2.2.2.2.2.2.2.2.2.2.2.2.2.2.2.2.2.2.2.2.2.2.2.2.2.2.2.2.2.2.2.2.2.2.2.2.2.2.2.2.1 c2)) (fun cn52 => Decidable.byCases (p := (iAnd ((sf x5.toNat).toInt) 63) = 53) (fun c2 => w_tsI (off := 3304) b355 d355_44 rfl (by decide +kernel) (bd_toInt _) cz (by rw [c2]; rfl) <| ((h.2.2.2 c1).2.2.2.2.2.2.2.2.2.2.2.2.2.2.2.2.2.2.2.2.2.2.2.2.2.2.2.2.2.2.2.2.2.2.2.2.2.2.2.2.2.2.2.2.2.2.2.2.2.2.2.2.2.2.2.2.1 c2)) (fun cn53 => Decidable.byCases (p := (iAnd ((sf x5.toNat).toInt) 63) = 54) (fun c2 => w_tsI (off := 3372) b355 d355_44 rfl (by decide +kernel) (bd_toInt _) cz (by rw [c2]; rfl) <| ((h.2.2.2 c1).2.2.2.2.2.2.2.2.2.2.2.2.2.2.2.2.2.2.2.2.2.2.2.2.2.2.2.2.2.2.2.2.2.2.2.2.2.2.2.2.2.2.2.2.2.2.2.2.2.2.2.2.2.2.2.2.2.1 c2)) (fun cn54 => Decidable.byCases (p := (iAnd ((sf x5.toNat).toInt) 63) = 55) (fun c2 => w_tsI (off := 3397) b355 d355_44 rfl (by decide +kernel) (bd_toInt _) cz (by rw [c2]; rfl) <| ((h.2.2.2 c1).2.2.2.2.2.2.2.2.2.2.2.2.2.2.2.2.2.2.2.2.2.2.2.2.2.2.2.2.2.2.2.2.2.2.2.2.2.2.2.2.2.2.2.2.2.2.2.2.2.2.2.2.2.2.2.2.2.2.1 c2)) (fun cn55 => Decidable.byCases (p := (iAnd ((sf x5.toNat).toInt) 63) = 56) (fun c2 => w_tsI (off := 3410) b355 d355_44 rfl (by decide +kernel) (bd_toInt _) cz (by rw [c2]; rfl) <| ((h.2.2.2 c1).2.2.2.2.2.2.2.2.2.2.2.2.2.2.2.2.2.2.2.2.2.2.2.2.2.2.2.2.2.2.2.2.2.2.2.2.2.2.2.2.2.2.2.2.2.2.2.2.2.2.2.2.2.2.2.2.2.2.2.1 c2)) (fun cn56 => have c2 : (iAnd ((sf x5.toNat).toInt) 63) = 57 := by omega
  w_tsI (off := 3466) b355 d355_44 rfl (by decide +kernel) (bd_toInt _) cz (by rw [c2]; rfl) <| ((h.2.2.2 c1).2.2.2.2.2.2.2.2.2.2.2.2.2.2.2.2.2.2.2.2.2.2.2.2.2.2.2.2.2.2.2.2.2.2.2.2.2.2.2.2.2.2.2.2.2.2.2.2.2.2.2.2.2.2.2.2.2.2.2.2 c2))))))))))))))))))))))))))))))))))))))))))))))))))))))))))))
theorem v355_292 {w : PW} {Q : PO → PW → Prop} {sn : Nat} {sf : Nat → Int32} {x5 : Int} {o6 : Option Value} {o7 : Option Value} {o8 : Option Value} {o9 : Option Value} (hs : Sh w) (hsn : Nat.blt sn 2147483648 = true) (hx5 : bd x5) (ho9 : pc2 o9 = false) (h : (Sc w sn sf) ∧ (0 ≤ (x5 + 1) ∧ (x5 + 1) < sn) ∧ (Sc w sn sf) ∧ (0 ≤ (x5 + 2) ∧ (x5 + 2) < sn) ∧ pC 10 [.ref 0, .long ((lShl (i2L ((sf (x5 + 1).toNat).toInt)) 32) ||| ((i2L ((sf (x5 + 2).toNat).toInt)) &&& ((4294967295 : Int64))))] w (kI fun u2 w1 => Sh w1 ∧ (Sc w1 sn sf) ∧ (0 ≤ (x5 + 1) ∧ (x5 + 1) < sn) ∧ (Sc w1 sn sf) ∧ (0 ≤ (x5 + 2) ∧ (x5 + 2) < sn) ∧ pC 218 [.ref 169, .long ((lShl (i2L ((sf (x5 + 1).toNat).toInt)) 32) ||| ((i2L ((sf (x5 + 2).toNat).toInt)) &&& ((4294967295 : Int64))))] w1 (kI fun u4 w3 => Sh w3 ∧ (u2 = u4 → pX 355 3566 [some (.ref pSC), some (.ref 0), some (.ref 169), some (.ref 180), some (.ref 181), some (iv x5), o6, o7, o8, o9] [] w3 Q) ∧ (u2 ≠ u4 → Q (.inl (some (iv 0))) w3)))) : pX 355 292 [some (.ref pSC), some (.ref 0), some (.ref 169), some (.ref 180), some (.ref 181), some (iv x5), o6, o7, o8, o9] [] w Q :=
  w_f b355 d355_292 rfl rfl rfl <| w_f b355 d355_293 rfl rfl rfl <| w_f b355 d355_294 rfl rfl rfl <| w_f b355 d355_296 rfl rfl rfl <| w_f b355 d355_297 rfl (pf_iadd x5 1) rfl <| w_scl b355 d355_298 rfl h.1 (bdix (n := sn) h.2.1 hsn) h.2.1 <| w_f b355 d355_299 rfl rfl rfl <| w_f b355 d355_300 rfl rfl rfl <| w_f b355 d355_302 rfl rfl rfl <| w_f b355 d355_303 rfl rfl rfl <| w_f b355 d355_304 rfl rfl rfl <| w_f b355 d355_306 rfl rfl rfl <| w_f b355 d355_307 rfl (pf_iadd x5 2) rfl <| w_scl b355 d355_308 rfl h.2.2.1 (bdix (n := sn) h.2.2.2.1 hsn) h.2.2.2.1 <| w_f b355 d355_309 rfl rfl rfl <| w_ldcL b355 d355_310 rfl rfl <| w_f b355 d355_313 rfl rfl rfl <| w_f b355 d355_314 rfl rfl rfl <| w_c b355 d355_315 rfl (pcl_v (n := 1) rfl rfl rfl (by decide +kernel) (sh_isOb hs (tlt 0 rfl) tbC_0) rfl rfl) rfl _ (hK_I fun u2 w1 hbu2 hkw1 => w_f b355 d355_318 rfl rfl rfl <| w_f b355 d355_319 rfl rfl rfl <| w_f b355 d355_320 rfl rfl rfl <| w_f b355 d355_322 rfl rfl rfl <| w_f b355 d355_323 rfl (pf_iadd x5 1) rfl <| w_scl b355 d355_324 rfl hkw1.2.1 (bdix (n := sn) hkw1.2.2.1 hsn) hkw1.2.2.1 <| w_f b355 d355_325 rfl rfl rfl <| w_f b355 d355_326 rfl rfl rfl <| w_f b355 d355_328 rfl rfl rfl <| w_f b355 d355_329 rfl rfl rfl <| w_f b355 d355_330 rfl rfl rfl <| w_f b355 d355_332 rfl rfl rfl <| w_f b355 d355_333 rfl (pf_iadd x5 2) rfl <| w_scl b355 d355_334 rfl hkw1.2.2.2.1 (bdix (n := sn) hkw1.2.2.2.2.1 hsn) hkw1.2.2.2.2.1 <| w_f b355 d355_335 rfl rfl rfl <| w_ldcL b355 d355_336 rfl rfl <| w_f b355 d355_339 rfl rfl rfl <| w_f b355 d355_340 rfl rfl rfl <| w_c b355 d355_341 rfl (pcl_v (n := 1) rfl rfl rfl (by decide +kernel) (sh_isOb hkw1.1 (tlt 169 rfl) tbC_169) rfl rfl) rfl _ (hK_I fun u4 w3 hbu4 hkw3 => w_iceq b355 d355_344 rfl rfl (by decide +kernel) hbu2 hbu4 (fun c5 => (hkw3.2.1 c5)) (fun c5 => w_f b355 d355_347 rfl rfl rfl <| w_rz b355 d355_348 r355 (by decide) (hkw3.2.2 c5))) hkw1.2.2.2.2.2) h.2.2.2.2
theorem v355_349 {w : PW} {Q : PO → PW → Prop} {sn : Nat} {sf : Nat → Int32} {x5 : Int} {o6 : Option Value} {o7 : Option Value} {o8 : Option Value} {o9 : Option Value} (hs : Sh w) (hsn : Nat.blt sn 2147483648 = true) (hx5 : bd x5) (ho9 : pc2 o9 = false) (h : pC 39 [.ref 0] w (kI fun u2 w1 => Sh w1 ∧ pC 242 [.ref 169] w1 (kI fun u4 w3 => Sh w3 ∧ (u2 = u4 → pX 355 3566 [some (.ref pSC), some (.ref 0), some (.ref 169), some (.ref 180), some (.ref 181), some (iv x5), o6, o7, o8, o9] [] w3 Q) ∧ (u2 ≠ u4 → Q (.inl (some (iv 0))) w3)))) : pX 355 349 [some (.ref pSC), some (.ref 0), some (.ref 169), some (.ref 180), some (.ref 181), some (iv x5), o6, o7, o8, o9] [] w Q :=
  w_f b355 d355_349 rfl rfl rfl <| w_c b355 d355_350 rfl (pcl_v (n := 0) rfl rfl rfl (by decide +kernel) (sh_isOb hs (tlt 0 rfl) tbC_0) rfl rfl) rfl _ (hK_I fun u2 w1 hbu2 hkw1 => w_f b355 d355_353 rfl rfl rfl <| w_c b355 d355_354 rfl (pcl_v (n := 0) rfl rfl rfl (by decide +kernel) (sh_isOb hkw1.1 (tlt 169 rfl) tbC_169) rfl rfl) rfl _ (hK_I fun u4 w3 hbu4 hkw3 => w_iceq b355 d355_357 rfl rfl (by decide +kernel) hbu2 hbu4 (fun c5 => (hkw3.2.1 c5)) (fun c5 => w_f b355 d355_360 rfl rfl rfl <| w_rz b355 d355_361 r355 (by decide) (hkw3.2.2 c5))) hkw1.2) h
theorem v355_362 {w : PW} {Q : PO → PW → Prop} {sn : Nat} {sf : Nat → Int32} {x5 : Int} {o6 : Option Value} {o7 : Option Value} {o8 : Option Value} {o9 : Option Value} (hs : Sh w) (hsn : Nat.blt sn 2147483648 = true) (hx5 : bd x5) (ho9 : pc2 o9 = false) (h : pC 40 [.ref 0] w (kI fun u2 w1 => Sh w1 ∧ pC 243 [.ref 169] w1 (kI fun u4 w3 => Sh w3 ∧ (u2 = u4 → pX 355 3566 [some (.ref pSC), some (.ref 0), some (.ref 169), some (.ref 180), some (.ref 181), some (iv x5), o6, o7, o8, o9] [] w3 Q) ∧ (u2 ≠ u4 → Q (.inl (some (iv 0))) w3)))) : pX 355 362 [some (.ref pSC), some (.ref 0), some (.ref 169), some (.ref 180), some (.ref 181), some (iv x5), o6, o7, o8, o9] [] w Q :=
  w_f b355 d355_362 rfl rfl rfl <| w_c b355 d355_363 rfl (pcl_v (n := 0) rfl rfl rfl (by decide +kernel) (sh_isOb hs (tlt 0 rfl) tbC_0) rfl rfl) rfl _ (hK_I fun u2 w1 hbu2 hkw1 => w_f b355 d355_366 rfl rfl rfl <| w_c b355 d355_367 rfl (pcl_v (n := 0) rfl rfl rfl (by decide +kernel) (sh_isOb hkw1.1 (tlt 169 rfl) tbC_169) rfl rfl) rfl _ (hK_I fun u4 w3 hbu4 hkw3 => w_iceq b355 d355_370 rfl rfl (by decide +kernel) hbu2 hbu4 (fun c5 => (hkw3.2.1 c5)) (fun c5 => w_f b355 d355_373 rfl rfl rfl <| w_rz b355 d355_374 r355 (by decide) (hkw3.2.2 c5))) hkw1.2) h
theorem v355_375 {w : PW} {Q : PO → PW → Prop} {sn : Nat} {sf : Nat → Int32} {x5 : Int} {o6 : Option Value} {o7 : Option Value} {o8 : Option Value} {o9 : Option Value} (hs : Sh w) (hsn : Nat.blt sn 2147483648 = true) (hx5 : bd x5) (ho9 : pc2 o9 = false) (h : pC 41 [.ref 0] w (kI fun u2 w1 => Sh w1 ∧ pC 244 [.ref 169] w1 (kI fun u4 w3 => Sh w3 ∧ (u2 = u4 → pX 355 3566 [some (.ref pSC), some (.ref 0), some (.ref 169), some (.ref 180), some (.ref 181), some (iv x5), o6, o7, o8, o9] [] w3 Q) ∧ (u2 ≠ u4 → Q (.inl (some (iv 0))) w3)))) : pX 355 375 [some (.ref pSC), some (.ref 0), some (.ref 169), some (.ref 180), some (.ref 181), some (iv x5), o6, o7, o8, o9] [] w Q :=
  w_f b355 d355_375 rfl rfl rfl <| w_c b355 d355_376 rfl (pcl_v (n := 0) rfl rfl rfl (by decide +kernel) (sh_isOb hs (tlt 0 rfl) tbC_0) rfl rfl) rfl _ (hK_I fun u2 w1 hbu2 hkw1 => w_f b355 d355_379 rfl rfl rfl <| w_c b355 d355_380 rfl (pcl_v (n := 0) rfl rfl rfl (by decide +kernel) (sh_isOb hkw1.1 (tlt 169 rfl) tbC_169) rfl rfl) rfl _ (hK_I fun u4 w3 hbu4 hkw3 => w_iceq b355 d355_383 rfl rfl (by decide +kernel) hbu2 hbu4 (fun c5 => (hkw3.2.1 c5)) (fun c5 => w_f b355 d355_386 rfl rfl rfl <| w_rz b355 d355_387 r355 (by decide) (hkw3.2.2 c5))) hkw1.2) h
theorem v355_388 {w : PW} {Q : PO → PW → Prop} {sn : Nat} {sf : Nat → Int32} {x5 : Int} {o6 : Option Value} {o7 : Option Value} {o8 : Option Value} {o9 : Option Value} (hs : Sh w) (hsn : Nat.blt sn 2147483648 = true) (hx5 : bd x5) (ho9 : pc2 o9 = false) (h : (Sc w sn sf) ∧ (0 ≤ (x5 + 1) ∧ (x5 + 1) < sn) ∧ pC 66 [.ref 0, iv ((sf (x5 + 1).toNat).toInt), .ref 180] w (kX (kI fun u2 w1 => Sh w1 ∧ (Sc w1 sn sf) ∧ (0 ≤ (x5 + 1) ∧ (x5 + 1) < sn) ∧ pC 257 [.ref 169, iv ((sf (x5 + 1).toNat).toInt)] w1 (kI fun u4 w3 => Sh w3 ∧ ((gI w3 169 0) = u2 → (u2 ≠ 0 → pX 355 3566 [some (.ref pSC), some (.ref 0), some (.ref 169), some (.ref 180), some (.ref 181), some (iv x5), some (iv u2), some (iv u4), o8, o9] [] w3 Q) ∧ (u2 = 0 → ((lCmp (gL w3 180 0) (i2L u4)) = 0 → pX 355 3566 [some (.ref pSC), some (.ref 0), some (.ref 169), some (.ref 180), some (.ref 181), some (iv x5), some (iv u2), some (iv u4), o8, o9] [] w3 Q) ∧ ((lCmp (gL w3 180 0) (i2L u4)) ≠ 0 → Q (.inl (some (iv 0))) w3))) ∧ ((gI w3 169 0) ≠ u2 → Q (.inl (some (iv 0))) w3))) Q)) : pX 355 388 [some (.ref pSC), some (.ref 0), some (.ref 169), some (.ref 180), some (.ref 181), some (iv x5), o6, o7, o8, o9] [] w Q :=
  w_f b355 d355_388 rfl rfl rfl <| w_f b355 d355_389 rfl rfl rfl <| w_f b355 d355_390 rfl rfl rfl <| w_f b355 d355_392 rfl rfl rfl <| w_f b355 d355_393 rfl (pf_iadd x5 1) rfl <| w_scl b355 d355_394 rfl h.1 (bdix (n := sn) h.2.1 hsn) h.2.1 <| w_f b355 d355_395 rfl rfl rfl <| w_c b355 d355_396 rfl (pcl_s4 (n := 3) rfl rfl rfl (by decide +kernel) rfl rfl) rfl _ (hK_X rfl (hK_I fun u2 w1 hbu2 hkw1 => w_f b355 d355_399 rfl rfl rfl <| w_f b355 d355_401 rfl rfl rfl <| w_f b355 d355_402 rfl rfl rfl <| w_f b355 d355_403 rfl rfl rfl <| w_f b355 d355_405 rfl rfl rfl <| w_f b355 d355_406 rfl (pf_iadd x5 1) rfl <| w_scl b355 d355_407 rfl hkw1.2.1 (bdix (n := sn) hkw1.2.2.1 hsn) hkw1.2.2.1 <| w_c b355 d355_408 rfl (pcl_v (n := 1) rfl rfl rfl (by decide +kernel) (sh_isOb hkw1.1 (tlt 169 rfl) tbC_169) rfl rfl) rfl _ (hK_I fun u4 w3 hbu4 hkw3 => w_f b355 d355_411 rfl rfl rfl <| w_f b355 d355_413 rfl rfl rfl <| w_cc b355 d355_414 rfl (pcl_v (n := 0) rfl rfl rfl (by decide +kernel) (sh_isOb hkw3.1 (tlt 169 rfl) tbC_169) rfl rfl) rfl <| c217 hkw3.1 <| w_f b355 d355_417 rfl rfl rfl <| w_iceq b355 d355_419 rfl rfl (by decide +kernel) (bd_gI _ _ _) hbu2 (fun c5 => w_f b355 d355_424 rfl rfl rfl <| w_ifne b355 d355_426 rfl rfl (by decide +kernel) hbu2 (fun c6 => w_j b355 d355_441 rfl (by decide +kernel) <| ((hkw3.2.1 c5).1 c6)) (fun c6 => w_f b355 d355_429 rfl rfl rfl <| w_f b355 d355_430 rfl rfl rfl <| w_lal b355 d355_431 rfl hkw3.1 (tlt 180 rfl) tbC_180 (bdix (n := 1) ⟨by decide, by decide⟩ rfl) ⟨by decide, by decide⟩ <| w_f b355 d355_432 rfl rfl rfl <| w_f b355 d355_434 rfl rfl rfl <| w_f b355 d355_435 rfl (pf_lcmp _ _) rfl <| w_ifeq b355 d355_436 rfl rfl (by decide +kernel) (bd_toInt _) (fun c7 => w_j b355 d355_441 rfl (by decide +kernel) <| (((hkw3.2.1 c5).2 c6).1 c7)) (fun c7 => w_f b355 d355_439 rfl rfl rfl <| w_rz b355 d355_440 r355 (by decide) (((hkw3.2.1 c5).2 c6).2 c7)))) (fun c5 => w_f b355 d355_422 rfl rfl rfl <| w_rz b355 d355_423 r355 (by decide) (hkw3.2.2 c5))) hkw1.2.2.2)) h.2.2
theorem v355_444 {w : PW} {Q : PO → PW → Prop} {sn : Nat} {sf : Nat → Int32} {x5 : Int} {o6 : Option Value} {o7 : Option Value} {o8 : Option Value} {o9 : Option Value} (hs : Sh w) (hsn : Nat.blt sn 2147483648 = true) (hx5 : bd x5) (ho9 : pc2 o9 = false) (h : (Sc w sn sf) ∧ (0 ≤ (x5 + 1) ∧ (x5 + 1) < sn) ∧ (Sc w sn sf) ∧ (0 ≤ (x5 + 2) ∧ (x5 + 2) < sn) ∧ pC 70 [.ref 0, iv ((sf (x5 + 1).toNat).toInt), iv ((sf (x5 + 2).toNat).toInt), .ref 180] w (kX (kI fun u2 w1 => Sh w1 ∧ (Sc w1 sn sf) ∧ (0 ≤ (x5 + 1) ∧ (x5 + 1) < sn) ∧ (Sc w1 sn sf) ∧ (0 ≤ (x5 + 2) ∧ (x5 + 2) < sn) ∧ pC 265 [.ref 169, iv ((sf (x5 + 1).toNat).toInt), iv ((sf (x5 + 2).toNat).toInt)] w1 (kI fun u4 w3 => Sh w3 ∧ ((gI w3 169 0) = u2 → (u2 ≠ 0 → pX 355 3566 [some (.ref pSC), some (.ref 0), some (.ref 169), some (.ref 180), some (.ref 181), some (iv x5), some (iv u2), some (iv u4), o8, o9] [] w3 Q) ∧ (u2 = 0 → ((lCmp (gL w3 180 0) (i2L u4)) = 0 → pX 355 3566 [some (.ref pSC), some (.ref 0), some (.ref 169), some (.ref 180), some (.ref 181), some (iv x5), some (iv u2), some (iv u4), o8, o9] [] w3 Q) ∧ ((lCmp (gL w3 180 0) (i2L u4)) ≠ 0 → Q (.inl (some (iv 0))) w3))) ∧ ((gI w3 169 0) ≠ u2 → Q (.inl (some (iv 0))) w3))) Q)) : pX 355 444 [some (.ref pSC), some (.ref 0), some (.ref 169), some (.ref 180), some (.ref 181), some (iv x5), o6, o7, o8, o9] [] w Q :=
  w_f b355 d355_444 rfl rfl rfl <| w_f b355 d355_445 rfl rfl rfl <| w_f b355 d355_446 rfl rfl rfl <| w_f b355 d355_448 rfl rfl rfl <| w_f b355 d355_449 rfl (pf_iadd x5 1) rfl <| w_scl b355 d355_450 rfl h.1 (bdix (n := sn) h.2.1 hsn) h.2.1 <| w_f b355 d355_451 rfl rfl rfl <| w_f b355 d355_452 rfl rfl rfl <| w_f b355 d355_454 rfl rfl rfl <| w_f b355 d355_455 rfl (pf_iadd x5 2) rfl <| w_scl b355 d355_456 rfl h.2.2.1 (bdix (n := sn) h.2.2.2.1 hsn) h.2.2.2.1 <| w_f b355 d355_457 rfl rfl rfl <| w_c b355 d355_458 rfl (pcl_s4 (n := 4) rfl rfl rfl (by decide +kernel) rfl rfl) rfl _ (hK_X rfl (hK_I fun u2 w1 hbu2 hkw1 => w_f b355 d355_461 rfl rfl rfl <| w_f b355 d355_463 rfl rfl rfl <| w_f b355 d355_464 rfl rfl rfl <| w_f b355 d355_465 rfl rfl rfl <| w_f b355 d355_467 rfl rfl rfl <| w_f b355 d355_468 rfl (pf_iadd x5 1) rfl <| w_scl b355 d355_469 rfl hkw1.2.1 (bdix (n := sn) hkw1.2.2.1 hsn) hkw1.2.2.1 <| w_f b355 d355_470 rfl rfl rfl <| w_f b355 d355_471 rfl rfl rfl <| w_f b355 d355_473 rfl rfl rfl <| w_f b355 d355_474 rfl (pf_iadd x5 2) rfl <| w_scl b355 d355_475 rfl hkw1.2.2.2.1 (bdix (n := sn) hkw1.2.2.2.2.1 hsn) hkw1.2.2.2.2.1 <| w_c b355 d355_476 rfl (pcl_v (n := 2) rfl rfl rfl (by decide +kernel) (sh_isOb hkw1.1 (tlt 169 rfl) tbC_169) rfl rfl) rfl _ (hK_I fun u4 w3 hbu4 hkw3 => w_f b355 d355_479 rfl rfl rfl <| w_f b355 d355_481 rfl rfl rfl <| w_cc b355 d355_482 rfl (pcl_v (n := 0) rfl rfl rfl (by decide +kernel) (sh_isOb hkw3.1 (tlt 169 rfl) tbC_169) rfl rfl) rfl <| c217 hkw3.1 <| w_f b355 d355_485 rfl rfl rfl <| w_iceq b355 d355_487 rfl rfl (by decide +kernel) (bd_gI _ _ _) hbu2 (fun c5 => w_f b355 d355_492 rfl rfl rfl <| w_ifne b355 d355_494 rfl rfl (by decide +kernel) hbu2 (fun c6 => w_j b355 d355_509 rfl (by decide +kernel) <| ((hkw3.2.1 c5).1 c6)) (fun c6 => w_f b355 d355_497 rfl rfl rfl <| w_f b355 d355_498 rfl rfl rfl <| w_lal b355 d355_499 rfl hkw3.1 (tlt 180 rfl) tbC_180 (bdix (n := 1) ⟨by decide, by decide⟩ rfl) ⟨by decide, by decide⟩ <| w_f b355 d355_500 rfl rfl rfl <| w_f b355 d355_502 rfl rfl rfl <| w_f b355 d355_503 rfl (pf_lcmp _ _) rfl <| w_ifeq b355 d355_504 rfl rfl (by decide +kernel) (bd_toInt _) (fun c7 => w_j b355 d355_509 rfl (by decide +kernel) <| (((hkw3.2.1 c5).2 c6).1 c7)) (fun c7 => w_f b355 d355_507 rfl rfl rfl <| w_rz b355 d355_508 r355 (by decide) (((hkw3.2.1 c5).2 c6).2 c7)))) (fun c5 => w_f b355 d355_490 rfl rfl rfl <| w_rz b355 d355_491 r355 (by decide) (hkw3.2.2 c5))) hkw1.2.2.2.2.2)) h.2.2.2.2
theorem v355_512 {w : PW} {Q : PO → PW → Prop} {sn : Nat} {sf : Nat → Int32} {x5 : Int} {o6 : Option Value} {o7 : Option Value} {o8 : Option Value} {o9 : Option Value} (hs : Sh w) (hsn : Nat.blt sn 2147483648 = true) (hx5 : bd x5) (ho9 : pc2 o9 = false) (h : (Sc w sn sf) ∧ (0 ≤ (x5 + 1) ∧ (x5 + 1) < sn) ∧ (Sc w sn sf) ∧ (0 ≤ (x5 + 2) ∧ (x5 + 2) < sn) ∧ pC 75 [.ref 0, iv ((sf (x5 + 1).toNat).toInt), iv ((sf (x5 + 2).toNat).toInt), .ref 180] w (kX (kI fun u2 w1 => Sh w1 ∧ (Sc w1 sn sf) ∧ (0 ≤ (x5 + 1) ∧ (x5 + 1) < sn) ∧ (Sc w1 sn sf) ∧ (0 ≤ (x5 + 2) ∧ (x5 + 2) < sn) ∧ pC 270 [.ref 169, iv ((sf (x5 + 1).toNat).toInt), iv ((sf (x5 + 2).toNat).toInt)] w1 (kI fun u4 w3 => Sh w3 ∧ ((gI w3 169 0) = u2 → (u2 ≠ 0 → pX 355 3566 [some (.ref pSC), some (.ref 0), some (.ref 169), some (.ref 180), some (.ref 181), some (iv x5), some (iv u2), some (iv u4), o8, o9] [] w3 Q) ∧ (u2 = 0 → ((lCmp (gL w3 180 0) (i2L u4)) = 0 → pX 355 3566 [some (.ref pSC), some (.ref 0), some (.ref 169), some (.ref 180), some (.ref 181), some (iv x5), some (iv u2), some (iv u4), o8, o9] [] w3 Q) ∧ ((lCmp (gL w3 180 0) (i2L u4)) ≠ 0 → Q (.inl (some (iv 0))) w3))) ∧ ((gI w3 169 0) ≠ u2 → Q (.inl (some (iv 0))) w3))) Q)) : pX 355 512 [some (.ref pSC), some (.ref 0), some (.ref 169), some (.ref 180), some (.ref 181), some (iv x5), o6, o7, o8, o9] [] w Q :=
  w_f b355 d355_512 rfl rfl rfl <| w_f b355 d355_513 rfl rfl rfl <| w_f b355 d355_514 rfl rfl rfl <| w_f b355 d355_516 rfl rfl rfl <| w_f b355 d355_517 rfl (pf_iadd x5 1) rfl <| w_scl b355 d355_518 rfl h.1 (bdix (n := sn) h.2.1 hsn) h.2.1 <| w_f b355 d355_519 rfl rfl rfl <| w_f b355 d355_520 rfl rfl rfl <| w_f b355 d355_522 rfl rfl rfl <| w_f b355 d355_523 rfl (pf_iadd x5 2) rfl <| w_scl b355 d355_524 rfl h.2.2.1 (bdix (n := sn) h.2.2.2.1 hsn) h.2.2.2.1 <| w_f b355 d355_525 rfl rfl rfl <| w_c b355 d355_526 rfl (pcl_s4 (n := 4) rfl rfl rfl (by decide +kernel) rfl rfl) rfl _ (hK_X rfl (hK_I fun u2 w1 hbu2 hkw1 => w_f b355 d355_529 rfl rfl rfl <| w_f b355 d355_531 rfl rfl rfl <| w_f b355 d355_532 rfl rfl rfl <| w_f b355 d355_533 rfl rfl rfl <| w_f b355 d355_535 rfl rfl rfl <| w_f b355 d355_536 rfl (pf_iadd x5 1) rfl <| w_scl b355 d355_537 rfl hkw1.2.1 (bdix (n := sn) hkw1.2.2.1 hsn) hkw1.2.2.1 <| w_f b355 d355_538 rfl rfl rfl <| w_f b355 d355_539 rfl rfl rfl <| w_f b355 d355_541 rfl rfl rfl <| w_f b355 d355_542 rfl (pf_iadd x5 2) rfl <| w_scl b355 d355_543 rfl hkw1.2.2.2.1 (bdix (n := sn) hkw1.2.2.2.2.1 hsn) hkw1.2.2.2.2.1 <| w_c b355 d355_544 rfl (pcl_v (n := 2) rfl rfl rfl (by decide +kernel) (sh_isOb hkw1.1 (tlt 169 rfl) tbC_169) rfl rfl) rfl _ (hK_I fun u4 w3 hbu4 hkw3 => w_f b355 d355_547 rfl rfl rfl <| w_f b355 d355_549 rfl rfl rfl <| w_cc b355 d355_550 rfl (pcl_v (n := 0) rfl rfl rfl (by decide +kernel) (sh_isOb hkw3.1 (tlt 169 rfl) tbC_169) rfl rfl) rfl <| c217 hkw3.1 <| w_f b355 d355_553 rfl rfl rfl <| w_iceq b355 d355_555 rfl rfl (by decide +kernel) (bd_gI _ _ _) hbu2 (fun c5 => w_f b355 d355_560 rfl rfl rfl <| w_ifne b355 d355_562 rfl rfl (by decide +kernel) hbu2 (fun c6 => w_j b355 d355_577 rfl (by decide +kernel) <| ((hkw3.2.1 c5).1 c6)) (fun c6 => w_f b355 d355_565 rfl rfl rfl <| w_f b355 d355_566 rfl rfl rfl <| w_lal b355 d355_567 rfl hkw3.1 (tlt 180 rfl) tbC_180 (bdix (n := 1) ⟨by decide, by decide⟩ rfl) ⟨by decide, by decide⟩ <| w_f b355 d355_568 rfl rfl rfl <| w_f b355 d355_570 rfl rfl rfl <| w_f b355 d355_571 rfl (pf_lcmp _ _) rfl <| w_ifeq b355 d355_572 rfl rfl (by decide +kernel) (bd_toInt _) (fun c7 => w_j b355 d355_577 rfl (by decide +kernel) <| (((hkw3.2.1 c5).2 c6).1 c7)) (fun c7 => w_f b355 d355_575 rfl rfl rfl <| w_rz b355 d355_576 r355 (by decide) (((hkw3.2.1 c5).2 c6).2 c7)))) (fun c5 => w_f b355 d355_558 rfl rfl rfl <| w_rz b355 d355_559 r355 (by decide) (hkw3.2.2 c5))) hkw1.2.2.2.2.2)) h.2.2.2.2
theorem v355_580 {w : PW} {Q : PO → PW → Prop} {sn : Nat} {sf : Nat → Int32} {x5 : Int} {o6 : Option Value} {o7 : Option Value} {o8 : Option Value} {o9 : Option Value} (hs : Sh w) (hsn : Nat.blt sn 2147483648 = true) (hx5 : bd x5) (ho9 : pc2 o9 = false) (h : (Sc w sn sf) ∧ (0 ≤ (x5 + 1) ∧ (x5 + 1) < sn) ∧ (Sc w sn sf) ∧ (0 ≤ (x5 + 2) ∧ (x5 + 2) < sn) ∧ (Sc w sn sf) ∧ (0 ≤ (x5 + 3) ∧ (x5 + 3) < sn) ∧ pC 80 [.ref 0, iv ((sf (x5 + 1).toNat).toInt), iv ((sf (x5 + 2).toNat).toInt), iv ((sf (x5 + 3).toNat).toInt), .ref 180] w (kX (kI fun u2 w1 => Sh w1 ∧ (Sc w1 sn sf) ∧ (0 ≤ (x5 + 1) ∧ (x5 + 1) < sn) ∧ (Sc w1 sn sf) ∧ (0 ≤ (x5 + 2) ∧ (x5 + 2) < sn) ∧ (Sc w1 sn sf) ∧ (0 ≤ (x5 + 3) ∧ (x5 + 3) < sn) ∧ pC 274 [.ref 169, iv ((sf (x5 + 1).toNat).toInt), iv ((sf (x5 + 2).toNat).toInt), iv ((sf (x5 + 3).toNat).toInt)] w1 (kI fun u4 w3 => Sh w3 ∧ ((gI w3 169 0) = u2 → (u2 ≠ 0 → pX 355 3566 [some (.ref pSC), some (.ref 0), some (.ref 169), some (.ref 180), some (.ref 181), some (iv x5), some (iv u2), some (iv u4), o8, o9] [] w3 Q) ∧ (u2 = 0 → (u4 = 0 → ((lCmp (gL w3 180 0) ((0 : Int64))) = 0 → pX 355 3566 [some (.ref pSC), some (.ref 0), some (.ref 169), some (.ref 180), some (.ref 181), some (iv x5), some (iv u2), some (iv u4), o8, o9] [] w3 Q) ∧ ((lCmp (gL w3 180 0) ((0 : Int64))) ≠ 0 → Q (.inl (some (iv 0))) w3)) ∧ (u4 ≠ 0 → ((lCmp (gL w3 180 0) ((1 : Int64))) = 0 → pX 355 3566 [some (.ref pSC), some (.ref 0), some (.ref 169), some (.ref 180), some (.ref 181), some (iv x5), some (iv u2), some (iv u4), o8, o9] [] w3 Q) ∧ ((lCmp (gL w3 180 0) ((1 : Int64))) ≠ 0 → Q (.inl (some (iv 0))) w3)))) ∧ ((gI w3 169 0) ≠ u2 → Q (.inl (some (iv 0))) w3))) Q)) : pX 355 580 [some (.ref pSC), some (.ref 0), some (.ref 169), some (.ref 180), some (.ref 181), some (iv x5), o6, o7, o8, o9] [] w Q :=
  w_f b355 d355_580 rfl rfl rfl <| w_f b355 d355_581 rfl rfl rfl <| w_f b355 d355_582 rfl rfl rfl <| w_f b355 d355_584 rfl rfl rfl <| w_f b355 d355_585 rfl (pf_iadd x5 1) rfl <| w_scl b355 d355_586 rfl h.1 (bdix (n := sn) h.2.1 hsn) h.2.1 <| w_f b355 d355_587 rfl rfl rfl <| w_f b355 d355_588 rfl rfl rfl <| w_f b355 d355_590 rfl rfl rfl <| w_f b355 d355_591 rfl (pf_iadd x5 2) rfl <| w_scl b355 d355_592 rfl h.2.2.1 (bdix (n := sn) h.2.2.2.1 hsn) h.2.2.2.1 <| w_f b355 d355_593 rfl rfl rfl <| w_f b355 d355_594 rfl rfl rfl <| w_f b355 d355_596 rfl rfl rfl <| w_f b355 d355_597 rfl (pf_iadd x5 3) rfl <| w_scl b355 d355_598 rfl h.2.2.2.2.1 (bdix (n := sn) h.2.2.2.2.2.1 hsn) h.2.2.2.2.2.1 <| w_f b355 d355_599 rfl rfl rfl <| w_c b355 d355_600 rfl (pcl_s4 (n := 5) rfl rfl rfl (by decide +kernel) rfl rfl) rfl _ (hK_X rfl (hK_I fun u2 w1 hbu2 hkw1 => w_f b355 d355_603 rfl rfl rfl <| w_f b355 d355_605 rfl rfl rfl <| w_f b355 d355_606 rfl rfl rfl <| w_f b355 d355_607 rfl rfl rfl <| w_f b355 d355_609 rfl rfl rfl <| w_f b355 d355_610 rfl (pf_iadd x5 1) rfl <| w_scl b355 d355_611 rfl hkw1.2.1 (bdix (n := sn) hkw1.2.2.1 hsn) hkw1.2.2.1 <| w_f b355 d355_612 rfl rfl rfl <| w_f b355 d355_613 rfl rfl rfl <| w_f b355 d355_615 rfl rfl rfl <| w_f b355 d355_616 rfl (pf_iadd x5 2) rfl <| w_scl b355 d355_617 rfl hkw1.2.2.2.1 (bdix (n := sn) hkw1.2.2.2.2.1 hsn) hkw1.2.2.2.2.1 <| w_f b355 d355_618 rfl rfl rfl <| w_f b355 d355_619 rfl rfl rfl <| w_f b355 d355_621 rfl rfl rfl <| w_f b355 d355_622 rfl (pf_iadd x5 3) rfl <| w_scl b355 d355_623 rfl hkw1.2.2.2.2.2.1 (bdix (n := sn) hkw1.2.2.2.2.2.2.1 hsn) hkw1.2.2.2.2.2.2.1 <| w_c b355 d355_624 rfl (pcl_v (n := 3) rfl rfl rfl (by decide +kernel) (sh_isOb hkw1.1 (tlt 169 rfl) tbC_169) rfl rfl) rfl _ (hK_I fun u4 w3 hbu4 hkw3 => w_f b355 d355_627 rfl rfl rfl <| w_f b355 d355_629 rfl rfl rfl <| w_cc b355 d355_630 rfl (pcl_v (n := 0) rfl rfl rfl (by decide +kernel) (sh_isOb hkw3.1 (tlt 169 rfl) tbC_169) rfl rfl) rfl <| c217 hkw3.1 <| w_f b355 d355_633 rfl rfl rfl <| w_iceq b355 d355_635 rfl rfl (by decide +kernel) (bd_gI _ _ _) hbu2 (fun c5 => w_f b355 d355_640 rfl rfl rfl <| w_ifne b355 d355_642 rfl rfl (by decide +kernel) hbu2 (fun c6 => w_j b355 d355_664 rfl (by decide +kernel) <| ((hkw3.2.1 c5).1 c6)) (fun c6 => w_f b355 d355_645 rfl rfl rfl <| w_f b355 d355_646 rfl rfl rfl <| w_lal b355 d355_647 rfl hkw3.1 (tlt 180 rfl) tbC_180 (bdix (n := 1) ⟨by decide, by decide⟩ rfl) ⟨by decide, by decide⟩ <| w_f b355 d355_648 rfl rfl rfl <| w_ifeq b355 d355_650 rfl rfl (by decide +kernel) hbu4 (fun c7 => w_f b355 d355_657 rfl rfl rfl <| w_f b355 d355_658 rfl (pf_lcmp _ _) rfl <| w_ifeq b355 d355_659 rfl rfl (by decide +kernel) (bd_toInt _) (fun c8 => w_j b355 d355_664 rfl (by decide +kernel) <| ((((hkw3.2.1 c5).2 c6).1 c7).1 c8)) (fun c8 => w_f b355 d355_662 rfl rfl rfl <| w_rz b355 d355_663 r355 (by decide) ((((hkw3.2.1 c5).2 c6).1 c7).2 c8))) (fun c7 => w_f b355 d355_653 rfl rfl rfl <| w_j b355 d355_654 rfl (by decide +kernel) <| w_f b355 d355_658 rfl (pf_lcmp _ _) rfl <| w_ifeq b355 d355_659 rfl rfl (by decide +kernel) (bd_toInt _) (fun c9 => w_j b355 d355_664 rfl (by decide +kernel) <| ((((hkw3.2.1 c5).2 c6).2 c7).1 c9)) (fun c9 => w_f b355 d355_662 rfl rfl rfl <| w_rz b355 d355_663 r355 (by decide) ((((hkw3.2.1 c5).2 c6).2 c7).2 c9))))) (fun c5 => w_f b355 d355_638 rfl rfl rfl <| w_rz b355 d355_639 r355 (by decide) (hkw3.2.2 c5))) hkw1.2.2.2.2.2.2.2)) h.2.2.2.2.2.2
theorem v355_667 {w : PW} {Q : PO → PW → Prop} {sn : Nat} {sf : Nat → Int32} {x5 : Int} {o6 : Option Value} {o7 : Option Value} {o8 : Option Value} {o9 : Option Value} (hs : Sh w) (hsn : Nat.blt sn 2147483648 = true) (hx5 : bd x5) (ho9 : pc2 o9 = false) (h : (Sc w sn sf) ∧ (0 ≤ (x5 + 1) ∧ (x5 + 1) < sn) ∧ (Sc w sn sf) ∧ (0 ≤ (x5 + 2) ∧ (x5 + 2) < sn) ∧ (Sc w sn sf) ∧ (0 ≤ (x5 + 3) ∧ (x5 + 3) < sn) ∧ pC 83 [.ref 0, iv ((sf (x5 + 1).toNat).toInt), iv ((sf (x5 + 2).toNat).toInt), iv ((sf (x5 + 3).toNat).toInt), .ref 180] w (kX (kI fun u2 w1 => Sh w1 ∧ (Sc w1 sn sf) ∧ (0 ≤ (x5 + 1) ∧ (x5 + 1) < sn) ∧ (Sc w1 sn sf) ∧ (0 ≤ (x5 + 2) ∧ (x5 + 2) < sn) ∧ (Sc w1 sn sf) ∧ (0 ≤ (x5 + 3) ∧ (x5 + 3) < sn) ∧ pC 276 [.ref 169, iv ((sf (x5 + 1).toNat).toInt), iv ((sf (x5 + 2).toNat).toInt), iv ((sf (x5 + 3).toNat).toInt)] w1 (kI fun u4 w3 => Sh w3 ∧ ((gI w3 169 0) = u2 → (u2 ≠ 0 → pX 355 3566 [some (.ref pSC), some (.ref 0), some (.ref 169), some (.ref 180), some (.ref 181), some (iv x5), some (iv u2), some (iv u4), o8, o9] [] w3 Q) ∧ (u2 = 0 → ((lCmp (gL w3 180 0) (i2L u4)) = 0 → pX 355 3566 [some (.ref pSC), some (.ref 0), some (.ref 169), some (.ref 180), some (.ref 181), some (iv x5), some (iv u2), some (iv u4), o8, o9] [] w3 Q) ∧ ((lCmp (gL w3 180 0) (i2L u4)) ≠ 0 → Q (.inl (some (iv 0))) w3))) ∧ ((gI w3 169 0) ≠ u2 → Q (.inl (some (iv 0))) w3))) Q)) : pX 355 667 [some (.ref pSC), some (.ref 0), some (.ref 169), some (.ref 180), some (.ref 181), some (iv x5), o6, o7, o8, o9] [] w Q :=
  w_f b355 d355_667 rfl rfl rfl <| w_f b355 d355_668 rfl rfl rfl <| w_f b355 d355_669 rfl rfl rfl <| w_f b355 d355_671 rfl rfl rfl <| w_f b355 d355_672 rfl (pf_iadd x5 1) rfl <| w_scl b355 d355_673 rfl h.1 (bdix (n := sn) h.2.1 hsn) h.2.1 <| w_f b355 d355_674 rfl rfl rfl <| w_f b355 d355_675 rfl rfl rfl <| w_f b355 d355_677 rfl rfl rfl <| w_f b355 d355_678 rfl (pf_iadd x5 2) rfl <| w_scl b355 d355_679 rfl h.2.2.1 (bdix (n := sn) h.2.2.2.1 hsn) h.2.2.2.1 <| w_f b355 d355_680 rfl rfl rfl <| w_f b355 d355_681 rfl rfl rfl <| w_f b355 d355_683 rfl rfl rfl <| w_f b355 d355_684 rfl (pf_iadd x5 3) rfl <| w_scl b355 d355_685 rfl h.2.2.2.2.1 (bdix (n := sn) h.2.2.2.2.2.1 hsn) h.2.2.2.2.2.1 <| w_f b355 d355_686 rfl rfl rfl <| w_c b355 d355_687 rfl (pcl_s4 (n := 5) rfl rfl rfl (by decide +kernel) rfl rfl) rfl _ (hK_X rfl (hK_I fun u2 w1 hbu2 hkw1 => w_f b355 d355_690 rfl rfl rfl <| w_f b355 d355_692 rfl rfl rfl <| w_f b355 d355_693 rfl rfl rfl <| w_f b355 d355_694 rfl rfl rfl <| w_f b355 d355_696 rfl rfl rfl <| w_f b355 d355_697 rfl (pf_iadd x5 1) rfl <| w_scl b355 d355_698 rfl hkw1.2.1 (bdix (n := sn) hkw1.2.2.1 hsn) hkw1.2.2.1 <| w_f b355 d355_699 rfl rfl rfl <| w_f b355 d355_700 rfl rfl rfl <| w_f b355 d355_702 rfl rfl rfl <| w_f b355 d355_703 rfl (pf_iadd x5 2) rfl <| w_scl b355 d355_704 rfl hkw1.2.2.2.1 (bdix (n := sn) hkw1.2.2.2.2.1 hsn) hkw1.2.2.2.2.1 <| w_f b355 d355_705 rfl rfl rfl <| w_f b355 d355_706 rfl rfl rfl <| w_f b355 d355_708 rfl rfl rfl <| w_f b355 d355_709 rfl (pf_iadd x5 3) rfl <| w_scl b355 d355_710 rfl hkw1.2.2.2.2.2.1 (bdix (n := sn) hkw1.2.2.2.2.2.2.1 hsn) hkw1.2.2.2.2.2.2.1 <| w_c b355 d355_711 rfl (pcl_v (n := 3) rfl rfl rfl (by decide +kernel) (sh_isOb hkw1.1 (tlt 169 rfl) tbC_169) rfl rfl) rfl _ (hK_I fun u4 w3 hbu4 hkw3 => w_f b355 d355_714 rfl rfl rfl <| w_f b355 d355_716 rfl rfl rfl <| w_cc b355 d355_717 rfl (pcl_v (n := 0) rfl rfl rfl (by decide +kernel) (sh_isOb hkw3.1 (tlt 169 rfl) tbC_169) rfl rfl) rfl <| c217 hkw3.1 <| w_f b355 d355_720 rfl rfl rfl <| w_iceq b355 d355_722 rfl rfl (by decide +kernel) (bd_gI _ _ _) hbu2 (fun c5 => w_f b355 d355_727 rfl rfl rfl <| w_ifne b355 d355_729 rfl rfl (by decide +kernel) hbu2 (fun c6 => w_j b355 d355_744 rfl (by decide +kernel) <| ((hkw3.2.1 c5).1 c6)) (fun c6 => w_f b355 d355_732 rfl rfl rfl <| w_f b355 d355_733 rfl rfl rfl <| w_lal b355 d355_734 rfl hkw3.1 (tlt 180 rfl) tbC_180 (bdix (n := 1) ⟨by decide, by decide⟩ rfl) ⟨by decide, by decide⟩ <| w_f b355 d355_735 rfl rfl rfl <| w_f b355 d355_737 rfl rfl rfl <| w_f b355 d355_738 rfl (pf_lcmp _ _) rfl <| w_ifeq b355 d355_739 rfl rfl (by decide +kernel) (bd_toInt _) (fun c7 => w_j b355 d355_744 rfl (by decide +kernel) <| (((hkw3.2.1 c5).2 c6).1 c7)) (fun c7 => w_f b355 d355_742 rfl rfl rfl <| w_rz b355 d355_743 r355 (by decide) (((hkw3.2.1 c5).2 c6).2 c7)))) (fun c5 => w_f b355 d355_725 rfl rfl rfl <| w_rz b355 d355_726 r355 (by decide) (hkw3.2.2 c5))) hkw1.2.2.2.2.2.2.2)) h.2.2.2.2.2.2
theorem v355_747 {w : PW} {Q : PO → PW → Prop} {sn : Nat} {sf : Nat → Int32} {x5 : Int} {o6 : Option Value} {o7 : Option Value} {o8 : Option Value} {o9 : Option Value} (hs : Sh w) (hsn : Nat.blt sn 2147483648 = true) (hx5 : bd x5) (ho9 : pc2 o9 = false) (h : (Sc w sn sf) ∧ (0 ≤ (x5 + 1) ∧ (x5 + 1) < sn) ∧ (Sc w sn sf) ∧ (0 ≤ (x5 + 2) ∧ (x5 + 2) < sn) ∧ pC 86 [.ref 0, iv ((sf (x5 + 1).toNat).toInt), iv ((sf (x5 + 2).toNat).toInt), .ref 180] w (kX (kI fun u2 w1 => Sh w1 ∧ (Sc w1 sn sf) ∧ (0 ≤ (x5 + 1) ∧ (x5 + 1) < sn) ∧ (Sc w1 sn sf) ∧ (0 ≤ (x5 + 2) ∧ (x5 + 2) < sn) ∧ pC 277 [.ref 169, iv ((sf (x5 + 1).toNat).toInt), iv ((sf (x5 + 2).toNat).toInt)] w1 (kI fun u4 w3 => Sh w3 ∧ ((gI w3 169 0) = u2 → (u2 ≠ 0 → pX 355 3566 [some (.ref pSC), some (.ref 0), some (.ref 169), some (.ref 180), some (.ref 181), some (iv x5), some (iv u2), some (iv u4), o8, o9] [] w3 Q) ∧ (u2 = 0 → ((lCmp (gL w3 180 0) (i2L u4)) = 0 → pX 355 3566 [some (.ref pSC), some (.ref 0), some (.ref 169), some (.ref 180), some (.ref 181), some (iv x5), some (iv u2), some (iv u4), o8, o9] [] w3 Q) ∧ ((lCmp (gL w3 180 0) (i2L u4)) ≠ 0 → Q (.inl (some (iv 0))) w3))) ∧ ((gI w3 169 0) ≠ u2 → Q (.inl (some (iv 0))) w3))) Q)) : pX 355 747 [some (.ref pSC), some (.ref 0), some (.ref 169), some (.ref 180), some (.ref 181), some (iv x5), o6, o7, o8, o9] [] w Q :=
  w_f b355 d355_747 rfl rfl rfl <| w_f b355 d355_748 rfl rfl rfl <| w_f b355 d355_749 rfl rfl rfl <| w_f b355 d355_751 rfl rfl rfl <| w_f b355 d355_752 rfl (pf_iadd x5 1) rfl <| w_scl b355 d355_753 rfl h.1 (bdix (n := sn) h.2.1 hsn) h.2.1 <| w_f b355 d355_754 rfl rfl rfl <| w_f b355 d355_755 rfl rfl rfl <| w_f b355 d355_757 rfl rfl rfl <| w_f b355 d355_758 rfl (pf_iadd x5 2) rfl <| w_scl b355 d355_759 rfl h.2.2.1 (bdix (n := sn) h.2.2.2.1 hsn) h.2.2.2.1 <| w_f b355 d355_760 rfl rfl rfl <| w_c b355 d355_761 rfl (pcl_s4 (n := 4) rfl rfl rfl (by decide +kernel) rfl rfl) rfl _ (hK_X rfl (hK_I fun u2 w1 hbu2 hkw1 => w_f b355 d355_764 rfl rfl rfl <| w_f b355 d355_766 rfl rfl rfl <| w_f b355 d355_767 rfl rfl rfl <| w_f b355 d355_768 rfl rfl rfl <| w_f b355 d355_770 rfl rfl rfl <| w_f b355 d355_771 rfl (pf_iadd x5 1) rfl <| w_scl b355 d355_772 rfl hkw1.2.1 (bdix (n := sn) hkw1.2.2.1 hsn) hkw1.2.2.1 <| w_f b355 d355_773 rfl rfl rfl <| w_f b355 d355_774 rfl rfl rfl <| w_f b355 d355_776 rfl rfl rfl <| w_f b355 d355_777 rfl (pf_iadd x5 2) rfl <| w_scl b355 d355_778 rfl hkw1.2.2.2.1 (bdix (n := sn) hkw1.2.2.2.2.1 hsn) hkw1.2.2.2.2.1 <| w_c b355 d355_779 rfl (pcl_v (n := 2) rfl rfl rfl (by decide +kernel) (sh_isOb hkw1.1 (tlt 169 rfl) tbC_169) rfl rfl) rfl _ (hK_I fun u4 w3 hbu4 hkw3 => w_f b355 d355_782 rfl rfl rfl <| w_f b355 d355_784 rfl rfl rfl <| w_cc b355 d355_785 rfl (pcl_v (n := 0) rfl rfl rfl (by decide +kernel) (sh_isOb hkw3.1 (tlt 169 rfl) tbC_169) rfl rfl) rfl <| c217 hkw3.1 <| w_f b355 d355_788 rfl rfl rfl <| w_iceq b355 d355_790 rfl rfl (by decide +kernel) (bd_gI _ _ _) hbu2 (fun c5 => w_f b355 d355_795 rfl rfl rfl <| w_ifne b355 d355_797 rfl rfl (by decide +kernel) hbu2 (fun c6 => w_j b355 d355_812 rfl (by decide +kernel) <| ((hkw3.2.1 c5).1 c6)) (fun c6 => w_f b355 d355_800 rfl rfl rfl <| w_f b355 d355_801 rfl rfl rfl <| w_lal b355 d355_802 rfl hkw3.1 (tlt 180 rfl) tbC_180 (bdix (n := 1) ⟨by decide, by decide⟩ rfl) ⟨by decide, by decide⟩ <| w_f b355 d355_803 rfl rfl rfl <| w_f b355 d355_805 rfl rfl rfl <| w_f b355 d355_806 rfl (pf_lcmp _ _) rfl <| w_ifeq b355 d355_807 rfl rfl (by decide +kernel) (bd_toInt _) (fun c7 => w_j b355 d355_812 rfl (by decide +kernel) <| (((hkw3.2.1 c5).2 c6).1 c7)) (fun c7 => w_f b355 d355_810 rfl rfl rfl <| w_rz b355 d355_811 r355 (by decide) (((hkw3.2.1 c5).2 c6).2 c7)))) (fun c5 => w_f b355 d355_793 rfl rfl rfl <| w_rz b355 d355_794 r355 (by decide) (hkw3.2.2 c5))) hkw1.2.2.2.2.2)) h.2.2.2.2
theorem v355_815 {w : PW} {Q : PO → PW → Prop} {sn : Nat} {sf : Nat → Int32} {x5 : Int} {o6 : Option Value} {o7 : Option Value} {o8 : Option Value} {o9 : Option Value} (hs : Sh w) (hsn : Nat.blt sn 2147483648 = true) (hx5 : bd x5) (ho9 : pc2 o9 = false) (h : (Sc w sn sf) ∧ (0 ≤ (x5 + 1) ∧ (x5 + 1) < sn) ∧ pC 89 [.ref 0, iv ((sf (x5 + 1).toNat).toInt), .ref 180] w (kX (kI fun u2 w1 => Sh w1 ∧ (Sc w1 sn sf) ∧ (0 ≤ (x5 + 1) ∧ (x5 + 1) < sn) ∧ pC 278 [.ref 169, iv ((sf (x5 + 1).toNat).toInt)] w1 (kI fun u4 w3 => Sh w3 ∧ ((gI w3 169 0) = u2 → (u2 ≠ 0 → pX 355 3566 [some (.ref pSC), some (.ref 0), some (.ref 169), some (.ref 180), some (.ref 181), some (iv x5), some (iv u2), some (iv u4), o8, o9] [] w3 Q) ∧ (u2 = 0 → ((lCmp (gL w3 180 0) (i2L u4)) = 0 → pX 355 3566 [some (.ref pSC), some (.ref 0), some (.ref 169), some (.ref 180), some (.ref 181), some (iv x5), some (iv u2), some (iv u4), o8, o9] [] w3 Q) ∧ ((lCmp (gL w3 180 0) (i2L u4)) ≠ 0 → Q (.inl (some (iv 0))) w3))) ∧ ((gI w3 169 0) ≠ u2 → Q (.inl (some (iv 0))) w3))) Q)) : pX 355 815 [some (.ref pSC), some (.ref 0), some (.ref 169), some (.ref 180), some (.ref 181), some (iv x5), o6, o7, o8, o9] [] w Q :=
  w_f b355 d355_815 rfl rfl rfl <| w_f b355 d355_816 rfl rfl rfl <| w_f b355 d355_817 rfl rfl rfl <| w_f b355 d355_819 rfl rfl rfl <| w_f b355 d355_820 rfl (pf_iadd x5 1) rfl <| w_scl b355 d355_821 rfl h.1 (bdix (n := sn) h.2.1 hsn) h.2.1 <| w_f b355 d355_822 rfl rfl rfl <| w_c b355 d355_823 rfl (pcl_s4 (n := 3) rfl rfl rfl (by decide +kernel) rfl rfl) rfl _ (hK_X rfl (hK_I fun u2 w1 hbu2 hkw1 => w_f b355 d355_826 rfl rfl rfl <| w_f b355 d355_828 rfl rfl rfl <| w_f b355 d355_829 rfl rfl rfl <| w_f b355 d355_830 rfl rfl rfl <| w_f b355 d355_832 rfl rfl rfl <| w_f b355 d355_833 rfl (pf_iadd x5 1) rfl <| w_scl b355 d355_834 rfl hkw1.2.1 (bdix (n := sn) hkw1.2.2.1 hsn) hkw1.2.2.1 <| w_c b355 d355_835 rfl (pcl_v (n := 1) rfl rfl rfl (by decide +kernel) (sh_isOb hkw1.1 (tlt 169 rfl) tbC_169) rfl rfl) rfl _ (hK_I fun u4 w3 hbu4 hkw3 => w_f b355 d355_838 rfl rfl rfl <| w_f b355 d355_840 rfl rfl rfl <| w_cc b355 d355_841 rfl (pcl_v (n := 0) rfl rfl rfl (by decide +kernel) (sh_isOb hkw3.1 (tlt 169 rfl) tbC_169) rfl rfl) rfl <| c217 hkw3.1 <| w_f b355 d355_844 rfl rfl rfl <| w_iceq b355 d355_846 rfl rfl (by decide +kernel) (bd_gI _ _ _) hbu2 (fun c5 => w_f b355 d355_851 rfl rfl rfl <| w_ifne b355 d355_853 rfl rfl (by decide +kernel) hbu2 (fun c6 => w_j b355 d355_868 rfl (by decide +kernel) <| ((hkw3.2.1 c5).1 c6)) (fun c6 => w_f b355 d355_856 rfl rfl rfl <| w_f b355 d355_857 rfl rfl rfl <| w_lal b355 d355_858 rfl hkw3.1 (tlt 180 rfl) tbC_180 (bdix (n := 1) ⟨by decide, by decide⟩ rfl) ⟨by decide, by decide⟩ <| w_f b355 d355_859 rfl rfl rfl <| w_f b355 d355_861 rfl rfl rfl <| w_f b355 d355_862 rfl (pf_lcmp _ _) rfl <| w_ifeq b355 d355_863 rfl rfl (by decide +kernel) (bd_toInt _) (fun c7 => w_j b355 d355_868 rfl (by decide +kernel) <| (((hkw3.2.1 c5).2 c6).1 c7)) (fun c7 => w_f b355 d355_866 rfl rfl rfl <| w_rz b355 d355_867 r355 (by decide) (((hkw3.2.1 c5).2 c6).2 c7)))) (fun c5 => w_f b355 d355_849 rfl rfl rfl <| w_rz b355 d355_850 r355 (by decide) (hkw3.2.2 c5))) hkw1.2.2.2)) h.2.2
theorem v355_871 {w : PW} {Q : PO → PW → Prop} {sn : Nat} {sf : Nat → Int32} {x5 : Int} {o6 : Option Value} {o7 : Option Value} {o8 : Option Value} {o9 : Option Value} (hs : Sh w) (hsn : Nat.blt sn 2147483648 = true) (hx5 : bd x5) (ho9 : pc2 o9 = false) (h : (Sc w sn sf) ∧ (0 ≤ (x5 + 1) ∧ (x5 + 1) < sn) ∧ pC 94 [.ref 0, iv ((sf (x5 + 1).toNat).toInt), .ref 180] w (kX (kI fun u2 w1 => Sh w1 ∧ (Sc w1 sn sf) ∧ (0 ≤ (x5 + 1) ∧ (x5 + 1) < sn) ∧ pC 282 [.ref 169, iv ((sf (x5 + 1).toNat).toInt)] w1 (kI fun u4 w3 => Sh w3 ∧ ((gI w3 169 0) = u2 → (u2 ≠ 0 → pX 355 3566 [some (.ref pSC), some (.ref 0), some (.ref 169), some (.ref 180), some (.ref 181), some (iv x5), some (iv u2), some (iv u4), o8, o9] [] w3 Q) ∧ (u2 = 0 → ((lCmp (gL w3 180 0) (i2L u4)) = 0 → pX 355 3566 [some (.ref pSC), some (.ref 0), some (.ref 169), some (.ref 180), some (.ref 181), some (iv x5), some (iv u2), some (iv u4), o8, o9] [] w3 Q) ∧ ((lCmp (gL w3 180 0) (i2L u4)) ≠ 0 → Q (.inl (some (iv 0))) w3))) ∧ ((gI w3 169 0) ≠ u2 → Q (.inl (some (iv 0))) w3))) Q)) : pX 355 871 [some (.ref pSC), some (.ref 0), some (.ref 169), some (.ref 180), some (.ref 181), some (iv x5), o6, o7, o8, o9] [] w Q :=
  w_f b355 d355_871 rfl rfl rfl <| w_f b355 d355_872 rfl rfl rfl <| w_f b355 d355_873 rfl rfl rfl <| w_f b355 d355_875 rfl rfl rfl <| w_f b355 d355_876 rfl (pf_iadd x5 1) rfl <| w_scl b355 d355_877 rfl h.1 (bdix (n := sn) h.2.1 hsn) h.2.1 <| w_f b355 d355_878 rfl rfl rfl <| w_c b355 d355_879 rfl (pcl_s4 (n := 3) rfl rfl rfl (by decide +kernel) rfl rfl) rfl _ (hK_X rfl (hK_I fun u2 w1 hbu2 hkw1 => w_f b355 d355_882 rfl rfl rfl <| w_f b355 d355_884 rfl rfl rfl <| w_f b355 d355_885 rfl rfl rfl <| w_f b355 d355_886 rfl rfl rfl <| w_f b355 d355_888 rfl rfl rfl <| w_f b355 d355_889 rfl (pf_iadd x5 1) rfl <| w_scl b355 d355_890 rfl hkw1.2.1 (bdix (n := sn) hkw1.2.2.1 hsn) hkw1.2.2.1 <| w_c b355 d355_891 rfl (pcl_v (n := 1) rfl rfl rfl (by decide +kernel) (sh_isOb hkw1.1 (tlt 169 rfl) tbC_169) rfl rfl) rfl _ (hK_I fun u4 w3 hbu4 hkw3 => w_f b355 d355_894 rfl rfl rfl <| w_f b355 d355_896 rfl rfl rfl <| w_cc b355 d355_897 rfl (pcl_v (n := 0) rfl rfl rfl (by decide +kernel) (sh_isOb hkw3.1 (tlt 169 rfl) tbC_169) rfl rfl) rfl <| c217 hkw3.1 <| w_f b355 d355_900 rfl rfl rfl <| w_iceq b355 d355_902 rfl rfl (by decide +kernel) (bd_gI _ _ _) hbu2 (fun c5 => w_f b355 d355_907 rfl rfl rfl <| w_ifne b355 d355_909 rfl rfl (by decide +kernel) hbu2 (fun c6 => w_j b355 d355_924 rfl (by decide +kernel) <| ((hkw3.2.1 c5).1 c6)) (fun c6 => w_f b355 d355_912 rfl rfl rfl <| w_f b355 d355_913 rfl rfl rfl <| w_lal b355 d355_914 rfl hkw3.1 (tlt 180 rfl) tbC_180 (bdix (n := 1) ⟨by decide, by decide⟩ rfl) ⟨by decide, by decide⟩ <| w_f b355 d355_915 rfl rfl rfl <| w_f b355 d355_917 rfl rfl rfl <| w_f b355 d355_918 rfl (pf_lcmp _ _) rfl <| w_ifeq b355 d355_919 rfl rfl (by decide +kernel) (bd_toInt _) (fun c7 => w_j b355 d355_924 rfl (by decide +kernel) <| (((hkw3.2.1 c5).2 c6).1 c7)) (fun c7 => w_f b355 d355_922 rfl rfl rfl <| w_rz b355 d355_923 r355 (by decide) (((hkw3.2.1 c5).2 c6).2 c7)))) (fun c5 => w_f b355 d355_905 rfl rfl rfl <| w_rz b355 d355_906 r355 (by decide) (hkw3.2.2 c5))) hkw1.2.2.2)) h.2.2
theorem v355_927 {w : PW} {Q : PO → PW → Prop} {sn : Nat} {sf : Nat → Int32} {x5 : Int} {o6 : Option Value} {o7 : Option Value} {o8 : Option Value} {o9 : Option Value} (hs : Sh w) (hsn : Nat.blt sn 2147483648 = true) (hx5 : bd x5) (ho9 : pc2 o9 = false) (h : (Sc w sn sf) ∧ (0 ≤ (x5 + 1) ∧ (x5 + 1) < sn) ∧ (Sc w sn sf) ∧ (0 ≤ (x5 + 2) ∧ (x5 + 2) < sn) ∧ (Sc w sn sf) ∧ (0 ≤ (x5 + 3) ∧ (x5 + 3) < sn) ∧ pC 98 [.ref 0, iv ((sf (x5 + 1).toNat).toInt), iv ((sf (x5 + 2).toNat).toInt), iv ((sf (x5 + 3).toNat).toInt), .ref 180] w (kX (kI fun u2 w1 => Sh w1 ∧ (Sc w1 sn sf) ∧ (0 ≤ (x5 + 1) ∧ (x5 + 1) < sn) ∧ (Sc w1 sn sf) ∧ (0 ≤ (x5 + 2) ∧ (x5 + 2) < sn) ∧ (Sc w1 sn sf) ∧ (0 ≤ (x5 + 3) ∧ (x5 + 3) < sn) ∧ pC 283 [.ref 169, iv ((sf (x5 + 1).toNat).toInt), iv ((sf (x5 + 2).toNat).toInt), iv ((sf (x5 + 3).toNat).toInt)] w1 (kI fun u4 w3 => Sh w3 ∧ ((gI w3 169 0) = u2 → (u2 ≠ 0 → pX 355 3566 [some (.ref pSC), some (.ref 0), some (.ref 169), some (.ref 180), some (.ref 181), some (iv x5), some (iv u2), some (iv u4), o8, o9] [] w3 Q) ∧ (u2 = 0 → ((lCmp (gL w3 180 0) (i2L u4)) = 0 → pX 355 3566 [some (.ref pSC), some (.ref 0), some (.ref 169), some (.ref 180), some (.ref 181), some (iv x5), some (iv u2), some (iv u4), o8, o9] [] w3 Q) ∧ ((lCmp (gL w3 180 0) (i2L u4)) ≠ 0 → Q (.inl (some (iv 0))) w3))) ∧ ((gI w3 169 0) ≠ u2 → Q (.inl (some (iv 0))) w3))) Q)) : pX 355 927 [some (.ref pSC), some (.ref 0), some (.ref 169), some (.ref 180), some (.ref 181), some (iv x5), o6, o7, o8, o9] [] w Q :=
  w_f b355 d355_927 rfl rfl rfl <| w_f b355 d355_928 rfl rfl rfl <| w_f b355 d355_929 rfl rfl rfl <| w_f b355 d355_931 rfl rfl rfl <| w_f b355 d355_932 rfl (pf_iadd x5 1) rfl <| w_scl b355 d355_933 rfl h.1 (bdix (n := sn) h.2.1 hsn) h.2.1 <| w_f b355 d355_934 rfl rfl rfl <| w_f b355 d355_935 rfl rfl rfl <| w_f b355 d355_937 rfl rfl rfl <| w_f b355 d355_938 rfl (pf_iadd x5 2) rfl <| w_scl b355 d355_939 rfl h.2.2.1 (bdix (n := sn) h.2.2.2.1 hsn) h.2.2.2.1 <| w_f b355 d355_940 rfl rfl rfl <| w_f b355 d355_941 rfl rfl rfl <| w_f b355 d355_943 rfl rfl rfl <| w_f b355 d355_944 rfl (pf_iadd x5 3) rfl <| w_scl b355 d355_945 rfl h.2.2.2.2.1 (bdix (n := sn) h.2.2.2.2.2.1 hsn) h.2.2.2.2.2.1 <| w_f b355 d355_946 rfl rfl rfl <| w_c b355 d355_947 rfl (pcl_s4 (n := 5) rfl rfl rfl (by decide +kernel) rfl rfl) rfl _ (hK_X rfl (hK_I fun u2 w1 hbu2 hkw1 => w_f b355 d355_950 rfl rfl rfl <| w_f b355 d355_952 rfl rfl rfl <| w_f b355 d355_953 rfl rfl rfl <| w_f b355 d355_954 rfl rfl rfl <| w_f b355 d355_956 rfl rfl rfl <| w_f b355 d355_957 rfl (pf_iadd x5 1) rfl <| w_scl b355 d355_958 rfl hkw1.2.1 (bdix (n := sn) hkw1.2.2.1 hsn) hkw1.2.2.1 <| w_f b355 d355_959 rfl rfl rfl <| w_f b355 d355_960 rfl rfl rfl <| w_f b355 d355_962 rfl rfl rfl <| w_f b355 d355_963 rfl (pf_iadd x5 2) rfl <| w_scl b355 d355_964 rfl hkw1.2.2.2.1 (bdix (n := sn) hkw1.2.2.2.2.1 hsn) hkw1.2.2.2.2.1 <| w_f b355 d355_965 rfl rfl rfl <| w_f b355 d355_966 rfl rfl rfl <| w_f b355 d355_968 rfl rfl rfl <| w_f b355 d355_969 rfl (pf_iadd x5 3) rfl <| w_scl b355 d355_970 rfl hkw1.2.2.2.2.2.1 (bdix (n := sn) hkw1.2.2.2.2.2.2.1 hsn) hkw1.2.2.2.2.2.2.1 <| w_c b355 d355_971 rfl (pcl_v (n := 3) rfl rfl rfl (by decide +kernel) (sh_isOb hkw1.1 (tlt 169 rfl) tbC_169) rfl rfl) rfl _ (hK_I fun u4 w3 hbu4 hkw3 => w_f b355 d355_974 rfl rfl rfl <| w_f b355 d355_976 rfl rfl rfl <| w_cc b355 d355_977 rfl (pcl_v (n := 0) rfl rfl rfl (by decide +kernel) (sh_isOb hkw3.1 (tlt 169 rfl) tbC_169) rfl rfl) rfl <| c217 hkw3.1 <| w_f b355 d355_980 rfl rfl rfl <| w_iceq b355 d355_982 rfl rfl (by decide +kernel) (bd_gI _ _ _) hbu2 (fun c5 => w_f b355 d355_987 rfl rfl rfl <| w_ifne b355 d355_989 rfl rfl (by decide +kernel) hbu2 (fun c6 => w_j b355 d355_1004 rfl (by decide +kernel) <| ((hkw3.2.1 c5).1 c6)) (fun c6 => w_f b355 d355_992 rfl rfl rfl <| w_f b355 d355_993 rfl rfl rfl <| w_lal b355 d355_994 rfl hkw3.1 (tlt 180 rfl) tbC_180 (bdix (n := 1) ⟨by decide, by decide⟩ rfl) ⟨by decide, by decide⟩ <| w_f b355 d355_995 rfl rfl rfl <| w_f b355 d355_997 rfl rfl rfl <| w_f b355 d355_998 rfl (pf_lcmp _ _) rfl <| w_ifeq b355 d355_999 rfl rfl (by decide +kernel) (bd_toInt _) (fun c7 => w_j b355 d355_1004 rfl (by decide +kernel) <| (((hkw3.2.1 c5).2 c6).1 c7)) (fun c7 => w_f b355 d355_1002 rfl rfl rfl <| w_rz b355 d355_1003 r355 (by decide) (((hkw3.2.1 c5).2 c6).2 c7)))) (fun c5 => w_f b355 d355_985 rfl rfl rfl <| w_rz b355 d355_986 r355 (by decide) (hkw3.2.2 c5))) hkw1.2.2.2.2.2.2.2)) h.2.2.2.2.2.2
theorem v355_1007 {w : PW} {Q : PO → PW → Prop} {sn : Nat} {sf : Nat → Int32} {x5 : Int} {o6 : Option Value} {o7 : Option Value} {o8 : Option Value} {o9 : Option Value} (hs : Sh w) (hsn : Nat.blt sn 2147483648 = true) (hx5 : bd x5) (ho9 : pc2 o9 = false) (h : (Sc w sn sf) ∧ (0 ≤ (x5 + 1) ∧ (x5 + 1) < sn) ∧ (Sc w sn sf) ∧ (0 ≤ (x5 + 2) ∧ (x5 + 2) < sn) ∧ pC 105 [.ref 0, iv ((sf (x5 + 1).toNat).toInt), iv ((sf (x5 + 2).toNat).toInt), .ref 180] w (kX (kI fun u2 w1 => Sh w1 ∧ (Sc w1 sn sf) ∧ (0 ≤ (x5 + 1) ∧ (x5 + 1) < sn) ∧ (Sc w1 sn sf) ∧ (0 ≤ (x5 + 2) ∧ (x5 + 2) < sn) ∧ pC 284 [.ref 169, iv ((sf (x5 + 1).toNat).toInt), iv ((sf (x5 + 2).toNat).toInt)] w1 (kI fun u4 w3 => Sh w3 ∧ ((gI w3 169 0) = u2 → (u2 ≠ 0 → pX 355 3566 [some (.ref pSC), some (.ref 0), some (.ref 169), some (.ref 180), some (.ref 181), some (iv x5), some (iv u2), some (iv u4), o8, o9] [] w3 Q) ∧ (u2 = 0 → ((lCmp (gL w3 180 0) (i2L u4)) = 0 → pX 355 3566 [some (.ref pSC), some (.ref 0), some (.ref 169), some (.ref 180), some (.ref 181), some (iv x5), some (iv u2), some (iv u4), o8, o9] [] w3 Q) ∧ ((lCmp (gL w3 180 0) (i2L u4)) ≠ 0 → Q (.inl (some (iv 0))) w3))) ∧ ((gI w3 169 0) ≠ u2 → Q (.inl (some (iv 0))) w3))) Q)) : pX 355 1007 [some (.ref pSC), some (.ref 0), some (.ref 169), some (.ref 180), some (.ref 181), some (iv x5), o6, o7, o8, o9] [] w Q :=
  w_f b355 d355_1007 rfl rfl rfl <| w_f b355 d355_1008 rfl rfl rfl <| w_f b355 d355_1009 rfl rfl rfl <| w_f b355 d355_1011 rfl rfl rfl <| w_f b355 d355_1012 rfl (pf_iadd x5 1) rfl <| w_scl b355 d355_1013 rfl h.1 (bdix (n := sn) h.2.1 hsn) h.2.1 <| w_f b355 d355_1014 rfl rfl rfl <| w_f b355 d355_1015 rfl rfl rfl <| w_f b355 d355_1017 rfl rfl rfl <| w_f b355 d355_1018 rfl (pf_iadd x5 2) rfl <| w_scl b355 d355_1019 rfl h.2.2.1 (bdix (n := sn) h.2.2.2.1 hsn) h.2.2.2.1 <| w_f b355 d355_1020 rfl rfl rfl <| w_c b355 d355_1021 rfl (pcl_s4 (n := 4) rfl rfl rfl (by decide +kernel) rfl rfl) rfl _ (hK_X rfl (hK_I fun u2 w1 hbu2 hkw1 => w_f b355 d355_1024 rfl rfl rfl <| w_f b355 d355_1026 rfl rfl rfl <| w_f b355 d355_1027 rfl rfl rfl <| w_f b355 d355_1028 rfl rfl rfl <| w_f b355 d355_1030 rfl rfl rfl <| w_f b355 d355_1031 rfl (pf_iadd x5 1) rfl <| w_scl b355 d355_1032 rfl hkw1.2.1 (bdix (n := sn) hkw1.2.2.1 hsn) hkw1.2.2.1 <| w_f b355 d355_1033 rfl rfl rfl <| w_f b355 d355_1034 rfl rfl rfl <| w_f b355 d355_1036 rfl rfl rfl <| w_f b355 d355_1037 rfl (pf_iadd x5 2) rfl <| w_scl b355 d355_1038 rfl hkw1.2.2.2.1 (bdix (n := sn) hkw1.2.2.2.2.1 hsn) hkw1.2.2.2.2.1 <| w_c b355 d355_1039 rfl (pcl_v (n := 2) rfl rfl rfl (by decide +kernel) (sh_isOb hkw1.1 (tlt 169 rfl) tbC_169) rfl rfl) rfl _ (hK_I fun u4 w3 hbu4 hkw3 => w_f b355 d355_1042 rfl rfl rfl <| w_f b355 d355_1044 rfl rfl rfl <| w_cc b355 d355_1045 rfl (pcl_v (n := 0) rfl rfl rfl (by decide +kernel) (sh_isOb hkw3.1 (tlt 169 rfl) tbC_169) rfl rfl) rfl <| c217 hkw3.1 <| w_f b355 d355_1048 rfl rfl rfl <| w_iceq b355 d355_1050 rfl rfl (by decide +kernel) (bd_gI _ _ _) hbu2 (fun c5 => w_f b355 d355_1055 rfl rfl rfl <| w_ifne b355 d355_1057 rfl rfl (by decide +kernel) hbu2 (fun c6 => w_j b355 d355_1072 rfl (by decide +kernel) <| ((hkw3.2.1 c5).1 c6)) (fun c6 => w_f b355 d355_1060 rfl rfl rfl <| w_f b355 d355_1061 rfl rfl rfl <| w_lal b355 d355_1062 rfl hkw3.1 (tlt 180 rfl) tbC_180 (bdix (n := 1) ⟨by decide, by decide⟩ rfl) ⟨by decide, by decide⟩ <| w_f b355 d355_1063 rfl rfl rfl <| w_f b355 d355_1065 rfl rfl rfl <| w_f b355 d355_1066 rfl (pf_lcmp _ _) rfl <| w_ifeq b355 d355_1067 rfl rfl (by decide +kernel) (bd_toInt _) (fun c7 => w_j b355 d355_1072 rfl (by decide +kernel) <| (((hkw3.2.1 c5).2 c6).1 c7)) (fun c7 => w_f b355 d355_1070 rfl rfl rfl <| w_rz b355 d355_1071 r355 (by decide) (((hkw3.2.1 c5).2 c6).2 c7)))) (fun c5 => w_f b355 d355_1053 rfl rfl rfl <| w_rz b355 d355_1054 r355 (by decide) (hkw3.2.2 c5))) hkw1.2.2.2.2.2)) h.2.2.2.2
theorem v355_1075 {w : PW} {Q : PO → PW → Prop} {sn : Nat} {sf : Nat → Int32} {x5 : Int} {o6 : Option Value} {o7 : Option Value} {o8 : Option Value} {o9 : Option Value} (hs : Sh w) (hsn : Nat.blt sn 2147483648 = true) (hx5 : bd x5) (ho9 : pc2 o9 = false) (h : (Sc w sn sf) ∧ (0 ≤ (x5 + 1) ∧ (x5 + 1) < sn) ∧ pC 109 [.ref 0, iv ((sf (x5 + 1).toNat).toInt), .ref 180] w (kX (kI fun u2 w1 => Sh w1 ∧ (Sc w1 sn sf) ∧ (0 ≤ (x5 + 1) ∧ (x5 + 1) < sn) ∧ pC 286 [.ref 169, iv ((sf (x5 + 1).toNat).toInt)] w1 (kI fun u4 w3 => Sh w3 ∧ ((gI w3 169 0) = u2 → (u2 ≠ 0 → pX 355 3566 [some (.ref pSC), some (.ref 0), some (.ref 169), some (.ref 180), some (.ref 181), some (iv x5), some (iv u2), some (iv u4), o8, o9] [] w3 Q) ∧ (u2 = 0 → ((lCmp (gL w3 180 0) (i2L u4)) = 0 → pX 355 3566 [some (.ref pSC), some (.ref 0), some (.ref 169), some (.ref 180), some (.ref 181), some (iv x5), some (iv u2), some (iv u4), o8, o9] [] w3 Q) ∧ ((lCmp (gL w3 180 0) (i2L u4)) ≠ 0 → Q (.inl (some (iv 0))) w3))) ∧ ((gI w3 169 0) ≠ u2 → Q (.inl (some (iv 0))) w3))) Q)) : pX 355 1075 [some (.ref pSC), some (.ref 0), some (.ref 169), some (.ref 180), some (.ref 181), some (iv x5), o6, o7, o8, o9] [] w Q :=
  w_f b355 d355_1075 rfl rfl rfl <| w_f b355 d355_1076 rfl rfl rfl <| w_f b355 d355_1077 rfl rfl rfl <| w_f b355 d355_1079 rfl rfl rfl <| w_f b355 d355_1080 rfl (pf_iadd x5 1) rfl <| w_scl b355 d355_1081 rfl h.1 (bdix (n := sn) h.2.1 hsn) h.2.1 <| w_f b355 d355_1082 rfl rfl rfl <| w_c b355 d355_1083 rfl (pcl_s4 (n := 3) rfl rfl rfl (by decide +kernel) rfl rfl) rfl _ (hK_X rfl (hK_I fun u2 w1 hbu2 hkw1 => w_f b355 d355_1086 rfl rfl rfl <| w_f b355 d355_1088 rfl rfl rfl <| w_f b355 d355_1089 rfl rfl rfl <| w_f b355 d355_1090 rfl rfl rfl <| w_f b355 d355_1092 rfl rfl rfl <| w_f b355 d355_1093 rfl (pf_iadd x5 1) rfl <| w_scl b355 d355_1094 rfl hkw1.2.1 (bdix (n := sn) hkw1.2.2.1 hsn) hkw1.2.2.1 <| w_c b355 d355_1095 rfl (pcl_v (n := 1) rfl rfl rfl (by decide +kernel) (sh_isOb hkw1.1 (tlt 169 rfl) tbC_169) rfl rfl) rfl _ (hK_I fun u4 w3 hbu4 hkw3 => w_f b355 d355_1098 rfl rfl rfl <| w_f b355 d355_1100 rfl rfl rfl <| w_cc b355 d355_1101 rfl (pcl_v (n := 0) rfl rfl rfl (by decide +kernel) (sh_isOb hkw3.1 (tlt 169 rfl) tbC_169) rfl rfl) rfl <| c217 hkw3.1 <| w_f b355 d355_1104 rfl rfl rfl <| w_iceq b355 d355_1106 rfl rfl (by decide +kernel) (bd_gI _ _ _) hbu2 (fun c5 => w_f b355 d355_1111 rfl rfl rfl <| w_ifne b355 d355_1113 rfl rfl (by decide +kernel) hbu2 (fun c6 => w_j b355 d355_1128 rfl (by decide +kernel) <| ((hkw3.2.1 c5).1 c6)) (fun c6 => w_f b355 d355_1116 rfl rfl rfl <| w_f b355 d355_1117 rfl rfl rfl <| w_lal b355 d355_1118 rfl hkw3.1 (tlt 180 rfl) tbC_180 (bdix (n := 1) ⟨by decide, by decide⟩ rfl) ⟨by decide, by decide⟩ <| w_f b355 d355_1119 rfl rfl rfl <| w_f b355 d355_1121 rfl rfl rfl <| w_f b355 d355_1122 rfl (pf_lcmp _ _) rfl <| w_ifeq b355 d355_1123 rfl rfl (by decide +kernel) (bd_toInt _) (fun c7 => w_j b355 d355_1128 rfl (by decide +kernel) <| (((hkw3.2.1 c5).2 c6).1 c7)) (fun c7 => w_f b355 d355_1126 rfl rfl rfl <| w_rz b355 d355_1127 r355 (by decide) (((hkw3.2.1 c5).2 c6).2 c7)))) (fun c5 => w_f b355 d355_1109 rfl rfl rfl <| w_rz b355 d355_1110 r355 (by decide) (hkw3.2.2 c5))) hkw1.2.2.2)) h.2.2
theorem v355_1131 {w : PW} {Q : PO → PW → Prop} {sn : Nat} {sf : Nat → Int32} {x5 : Int} {o6 : Option Value} {o7 : Option Value} {o8 : Option Value} {o9 : Option Value} (hs : Sh w) (hsn : Nat.blt sn 2147483648 = true) (hx5 : bd x5) (ho9 : pc2 o9 = false) (h : (Sc w sn sf) ∧ (0 ≤ (x5 + 1) ∧ (x5 + 1) < sn) ∧ pC 111 [.ref 0, iv ((sf (x5 + 1).toNat).toInt), .ref 180] w (kX (kI fun u2 w1 => Sh w1 ∧ (Sc w1 sn sf) ∧ (0 ≤ (x5 + 1) ∧ (x5 + 1) < sn) ∧ pC 289 [.ref 169, iv ((sf (x5 + 1).toNat).toInt)] w1 (kI fun u4 w3 => Sh w3 ∧ ((gI w3 169 0) = u2 → (u2 ≠ 0 → pX 355 3566 [some (.ref pSC), some (.ref 0), some (.ref 169), some (.ref 180), some (.ref 181), some (iv x5), some (iv u2), some (iv u4), o8, o9] [] w3 Q) ∧ (u2 = 0 → ((lCmp (gL w3 180 0) (i2L u4)) = 0 → pX 355 3566 [some (.ref pSC), some (.ref 0), some (.ref 169), some (.ref 180), some (.ref 181), some (iv x5), some (iv u2), some (iv u4), o8, o9] [] w3 Q) ∧ ((lCmp (gL w3 180 0) (i2L u4)) ≠ 0 → Q (.inl (some (iv 0))) w3))) ∧ ((gI w3 169 0) ≠ u2 → Q (.inl (some (iv 0))) w3))) Q)) : pX 355 1131 [some (.ref pSC), some (.ref 0), some (.ref 169), some (.ref 180), some (.ref 181), some (iv x5), o6, o7, o8, o9] [] w Q :=
  w_f b355 d355_1131 rfl rfl rfl <| w_f b355 d355_1132 rfl rfl rfl <| w_f b355 d355_1133 rfl rfl rfl <| w_f b355 d355_1135 rfl rfl rfl <| w_f b355 d355_1136 rfl (pf_iadd x5 1) rfl <| w_scl b355 d355_1137 rfl h.1 (bdix (n := sn) h.2.1 hsn) h.2.1 <| w_f b355 d355_1138 rfl rfl rfl <| w_c b355 d355_1139 rfl (pcl_s4 (n := 3) rfl rfl rfl (by decide +kernel) rfl rfl) rfl _ (hK_X rfl (hK_I fun u2 w1 hbu2 hkw1 => w_f b355 d355_1142 rfl rfl rfl <| w_f b355 d355_1144 rfl rfl rfl <| w_f b355 d355_1145 rfl rfl rfl <| w_f b355 d355_1146 rfl rfl rfl <| w_f b355 d355_1148 rfl rfl rfl <| w_f b355 d355_1149 rfl (pf_iadd x5 1) rfl <| w_scl b355 d355_1150 rfl hkw1.2.1 (bdix (n := sn) hkw1.2.2.1 hsn) hkw1.2.2.1 <| w_c b355 d355_1151 rfl (pcl_v (n := 1) rfl rfl rfl (by decide +kernel) (sh_isOb hkw1.1 (tlt 169 rfl) tbC_169) rfl rfl) rfl _ (hK_I fun u4 w3 hbu4 hkw3 => w_f b355 d355_1154 rfl rfl rfl <| w_f b355 d355_1156 rfl rfl rfl <| w_cc b355 d355_1157 rfl (pcl_v (n := 0) rfl rfl rfl (by decide +kernel) (sh_isOb hkw3.1 (tlt 169 rfl) tbC_169) rfl rfl) rfl <| c217 hkw3.1 <| w_f b355 d355_1160 rfl rfl rfl <| w_iceq b355 d355_1162 rfl rfl (by decide +kernel) (bd_gI _ _ _) hbu2 (fun c5 => w_f b355 d355_1167 rfl rfl rfl <| w_ifne b355 d355_1169 rfl rfl (by decide +kernel) hbu2 (fun c6 => w_j b355 d355_1184 rfl (by decide +kernel) <| ((hkw3.2.1 c5).1 c6)) (fun c6 => w_f b355 d355_1172 rfl rfl rfl <| w_f b355 d355_1173 rfl rfl rfl <| w_lal b355 d355_1174 rfl hkw3.1 (tlt 180 rfl) tbC_180 (bdix (n := 1) ⟨by decide, by decide⟩ rfl) ⟨by decide, by decide⟩ <| w_f b355 d355_1175 rfl rfl rfl <| w_f b355 d355_1177 rfl rfl rfl <| w_f b355 d355_1178 rfl (pf_lcmp _ _) rfl <| w_ifeq b355 d355_1179 rfl rfl (by decide +kernel) (bd_toInt _) (fun c7 => w_j b355 d355_1184 rfl (by decide +kernel) <| (((hkw3.2.1 c5).2 c6).1 c7)) (fun c7 => w_f b355 d355_1182 rfl rfl rfl <| w_rz b355 d355_1183 r355 (by decide) (((hkw3.2.1 c5).2 c6).2 c7)))) (fun c5 => w_f b355 d355_1165 rfl rfl rfl <| w_rz b355 d355_1166 r355 (by decide) (hkw3.2.2 c5))) hkw1.2.2.2)) h.2.2
theorem v355_1187 {w : PW} {Q : PO → PW → Prop} {sn : Nat} {sf : Nat → Int32} {x5 : Int} {o6 : Option Value} {o7 : Option Value} {o8 : Option Value} {o9 : Option Value} (hs : Sh w) (hsn : Nat.blt sn 2147483648 = true) (hx5 : bd x5) (ho9 : pc2 o9 = false) (h : (Sc w sn sf) ∧ (0 ≤ (x5 + 1) ∧ (x5 + 1) < sn) ∧ pC 114 [.ref 0, iv ((sf (x5 + 1).toNat).toInt), .ref 180] w (kX (kI fun u2 w1 => Sh w1 ∧ (Sc w1 sn sf) ∧ (0 ≤ (x5 + 1) ∧ (x5 + 1) < sn) ∧ pC 292 [.ref 169, iv ((sf (x5 + 1).toNat).toInt)] w1 (kI fun u4 w3 => Sh w3 ∧ ((gI w3 169 0) = u2 → (u2 ≠ 0 → pX 355 3566 [some (.ref pSC), some (.ref 0), some (.ref 169), some (.ref 180), some (.ref 181), some (iv x5), some (iv u2), some (iv u4), o8, o9] [] w3 Q) ∧ (u2 = 0 → (u4 = 0 → ((lCmp (gL w3 180 0) ((0 : Int64))) = 0 → pX 355 3566 [some (.ref pSC), some (.ref 0), some (.ref 169), some (.ref 180), some (.ref 181), some (iv x5), some (iv u2), some (iv u4), o8, o9] [] w3 Q) ∧ ((lCmp (gL w3 180 0) ((0 : Int64))) ≠ 0 → Q (.inl (some (iv 0))) w3)) ∧ (u4 ≠ 0 → ((lCmp (gL w3 180 0) ((1 : Int64))) = 0 → pX 355 3566 [some (.ref pSC), some (.ref 0), some (.ref 169), some (.ref 180), some (.ref 181), some (iv x5), some (iv u2), some (iv u4), o8, o9] [] w3 Q) ∧ ((lCmp (gL w3 180 0) ((1 : Int64))) ≠ 0 → Q (.inl (some (iv 0))) w3)))) ∧ ((gI w3 169 0) ≠ u2 → Q (.inl (some (iv 0))) w3))) Q)) : pX 355 1187 [some (.ref pSC), some (.ref 0), some (.ref 169), some (.ref 180), some (.ref 181), some (iv x5), o6, o7, o8, o9] [] w Q :=
  w_f b355 d355_1187 rfl rfl rfl <| w_f b355 d355_1188 rfl rfl rfl <| w_f b355 d355_1189 rfl rfl rfl <| w_f b355 d355_1191 rfl rfl rfl <| w_f b355 d355_1192 rfl (pf_iadd x5 1) rfl <| w_scl b355 d355_1193 rfl h.1 (bdix (n := sn) h.2.1 hsn) h.2.1 <| w_f b355 d355_1194 rfl rfl rfl <| w_c b355 d355_1195 rfl (pcl_s4 (n := 3) rfl rfl rfl (by decide +kernel) rfl rfl) rfl _ (hK_X rfl (hK_I fun u2 w1 hbu2 hkw1 => w_f b355 d355_1198 rfl rfl rfl <| w_f b355 d355_1200 rfl rfl rfl <| w_f b355 d355_1201 rfl rfl rfl <| w_f b355 d355_1202 rfl rfl rfl <| w_f b355 d355_1204 rfl rfl rfl <| w_f b355 d355_1205 rfl (pf_iadd x5 1) rfl <| w_scl b355 d355_1206 rfl hkw1.2.1 (bdix (n := sn) hkw1.2.2.1 hsn) hkw1.2.2.1 <| w_c b355 d355_1207 rfl (pcl_v (n := 1) rfl rfl rfl (by decide +kernel) (sh_isOb hkw1.1 (tlt 169 rfl) tbC_169) rfl rfl) rfl _ (hK_I fun u4 w3 hbu4 hkw3 => w_f b355 d355_1210 rfl rfl rfl <| w_f b355 d355_1212 rfl rfl rfl <| w_cc b355 d355_1213 rfl (pcl_v (n := 0) rfl rfl rfl (by decide +kernel) (sh_isOb hkw3.1 (tlt 169 rfl) tbC_169) rfl rfl) rfl <| c217 hkw3.1 <| w_f b355 d355_1216 rfl rfl rfl <| w_iceq b355 d355_1218 rfl rfl (by decide +kernel) (bd_gI _ _ _) hbu2 (fun c5 => w_f b355 d355_1223 rfl rfl rfl <| w_ifne b355 d355_1225 rfl rfl (by decide +kernel) hbu2 (fun c6 => w_j b355 d355_1247 rfl (by decide +kernel) <| ((hkw3.2.1 c5).1 c6)) (fun c6 => w_f b355 d355_1228 rfl rfl rfl <| w_f b355 d355_1229 rfl rfl rfl <| w_lal b355 d355_1230 rfl hkw3.1 (tlt 180 rfl) tbC_180 (bdix (n := 1) ⟨by decide, by decide⟩ rfl) ⟨by decide, by decide⟩ <| w_f b355 d355_1231 rfl rfl rfl <| w_ifeq b355 d355_1233 rfl rfl (by decide +kernel) hbu4 (fun c7 => w_f b355 d355_1240 rfl rfl rfl <| w_f b355 d355_1241 rfl (pf_lcmp _ _) rfl <| w_ifeq b355 d355_1242 rfl rfl (by decide +kernel) (bd_toInt _) (fun c8 => w_j b355 d355_1247 rfl (by decide +kernel) <| ((((hkw3.2.1 c5).2 c6).1 c7).1 c8)) (fun c8 => w_f b355 d355_1245 rfl rfl rfl <| w_rz b355 d355_1246 r355 (by decide) ((((hkw3.2.1 c5).2 c6).1 c7).2 c8))) (fun c7 => w_f b355 d355_1236 rfl rfl rfl <| w_j b355 d355_1237 rfl (by decide +kernel) <| w_f b355 d355_1241 rfl (pf_lcmp _ _) rfl <| w_ifeq b355 d355_1242 rfl rfl (by decide +kernel) (bd_toInt _) (fun c9 => w_j b355 d355_1247 rfl (by decide +kernel) <| ((((hkw3.2.1 c5).2 c6).2 c7).1 c9)) (fun c9 => w_f b355 d355_1245 rfl rfl rfl <| w_rz b355 d355_1246 r355 (by decide) ((((hkw3.2.1 c5).2 c6).2 c7).2 c9))))) (fun c5 => w_f b355 d355_1221 rfl rfl rfl <| w_rz b355 d355_1222 r355 (by decide) (hkw3.2.2 c5))) hkw1.2.2.2)) h.2.2
theorem v355_1250 {w : PW} {Q : PO → PW → Prop} {sn : Nat} {sf : Nat → Int32} {x5 : Int} {o6 : Option Value} {o7 : Option Value} {o8 : Option Value} {o9 : Option Value} (hs : Sh w) (hsn : Nat.blt sn 2147483648 = true) (hx5 : bd x5) (ho9 : pc2 o9 = false) (h : (Sc w sn sf) ∧ (0 ≤ (x5 + 1) ∧ (x5 + 1) < sn) ∧ pC 126 [.ref 0, iv ((sf (x5 + 1).toNat).toInt), .ref 180] w (kX (kI fun u2 w1 => Sh w1 ∧ (Sc w1 sn sf) ∧ (0 ≤ (x5 + 1) ∧ (x5 + 1) < sn) ∧ pC 300 [.ref 169, iv ((sf (x5 + 1).toNat).toInt)] w1 (kI fun u4 w3 => Sh w3 ∧ ((gI w3 169 0) = u2 → (u2 ≠ 0 → pX 355 3566 [some (.ref pSC), some (.ref 0), some (.ref 169), some (.ref 180), some (.ref 181), some (iv x5), some (iv u2), some (iv u4), o8, o9] [] w3 Q) ∧ (u2 = 0 → ((lCmp (gL w3 180 0) (i2L u4)) = 0 → pX 355 3566 [some (.ref pSC), some (.ref 0), some (.ref 169), some (.ref 180), some (.ref 181), some (iv x5), some (iv u2), some (iv u4), o8, o9] [] w3 Q) ∧ ((lCmp (gL w3 180 0) (i2L u4)) ≠ 0 → Q (.inl (some (iv 0))) w3))) ∧ ((gI w3 169 0) ≠ u2 → Q (.inl (some (iv 0))) w3))) Q)) : pX 355 1250 [some (.ref pSC), some (.ref 0), some (.ref 169), some (.ref 180), some (.ref 181), some (iv x5), o6, o7, o8, o9] [] w Q :=
  w_f b355 d355_1250 rfl rfl rfl <| w_f b355 d355_1251 rfl rfl rfl <| w_f b355 d355_1252 rfl rfl rfl <| w_f b355 d355_1254 rfl rfl rfl <| w_f b355 d355_1255 rfl (pf_iadd x5 1) rfl <| w_scl b355 d355_1256 rfl h.1 (bdix (n := sn) h.2.1 hsn) h.2.1 <| w_f b355 d355_1257 rfl rfl rfl <| w_c b355 d355_1258 rfl (pcl_s4 (n := 3) rfl rfl rfl (by decide +kernel) rfl rfl) rfl _ (hK_X rfl (hK_I fun u2 w1 hbu2 hkw1 => w_f b355 d355_1261 rfl rfl rfl <| w_f b355 d355_1263 rfl rfl rfl <| w_f b355 d355_1264 rfl rfl rfl <| w_f b355 d355_1265 rfl rfl rfl <| w_f b355 d355_1267 rfl rfl rfl <| w_f b355 d355_1268 rfl (pf_iadd x5 1) rfl <| w_scl b355 d355_1269 rfl hkw1.2.1 (bdix (n := sn) hkw1.2.2.1 hsn) hkw1.2.2.1 <| w_c b355 d355_1270 rfl (pcl_v (n := 1) rfl rfl rfl (by decide +kernel) (sh_isOb hkw1.1 (tlt 169 rfl) tbC_169) rfl rfl) rfl _ (hK_I fun u4 w3 hbu4 hkw3 => w_f b355 d355_1273 rfl rfl rfl <| w_f b355 d355_1275 rfl rfl rfl <| w_cc b355 d355_1276 rfl (pcl_v (n := 0) rfl rfl rfl (by decide +kernel) (sh_isOb hkw3.1 (tlt 169 rfl) tbC_169) rfl rfl) rfl <| c217 hkw3.1 <| w_f b355 d355_1279 rfl rfl rfl <| w_iceq b355 d355_1281 rfl rfl (by decide +kernel) (bd_gI _ _ _) hbu2 (fun c5 => w_f b355 d355_1286 rfl rfl rfl <| w_ifne b355 d355_1288 rfl rfl (by decide +kernel) hbu2 (fun c6 => w_j b355 d355_1303 rfl (by decide +kernel) <| ((hkw3.2.1 c5).1 c6)) (fun c6 => w_f b355 d355_1291 rfl rfl rfl <| w_f b355 d355_1292 rfl rfl rfl <| w_lal b355 d355_1293 rfl hkw3.1 (tlt 180 rfl) tbC_180 (bdix (n := 1) ⟨by decide, by decide⟩ rfl) ⟨by decide, by decide⟩ <| w_f b355 d355_1294 rfl rfl rfl <| w_f b355 d355_1296 rfl rfl rfl <| w_f b355 d355_1297 rfl (pf_lcmp _ _) rfl <| w_ifeq b355 d355_1298 rfl rfl (by decide +kernel) (bd_toInt _) (fun c7 => w_j b355 d355_1303 rfl (by decide +kernel) <| (((hkw3.2.1 c5).2 c6).1 c7)) (fun c7 => w_f b355 d355_1301 rfl rfl rfl <| w_rz b355 d355_1302 r355 (by decide) (((hkw3.2.1 c5).2 c6).2 c7)))) (fun c5 => w_f b355 d355_1284 rfl rfl rfl <| w_rz b355 d355_1285 r355 (by decide) (hkw3.2.2 c5))) hkw1.2.2.2)) h.2.2
theorem v355_1306 {w : PW} {Q : PO → PW → Prop} {sn : Nat} {sf : Nat → Int32} {x5 : Int} {o6 : Option Value} {o7 : Option Value} {o8 : Option Value} {o9 : Option Value} (hs : Sh w) (hsn : Nat.blt sn 2147483648 = true) (hx5 : bd x5) (ho9 : pc2 o9 = false) (h : (Sc w sn sf) ∧ (0 ≤ (x5 + 1) ∧ (x5 + 1) < sn) ∧ pC 128 [.ref 0, iv ((sf (x5 + 1).toNat).toInt), .ref 180] w (kX (kI fun u2 w1 => Sh w1 ∧ (Sc w1 sn sf) ∧ (0 ≤ (x5 + 1) ∧ (x5 + 1) < sn) ∧ pC 301 [.ref 169, iv ((sf (x5 + 1).toNat).toInt)] w1 (kI fun u4 w3 => Sh w3 ∧ ((gI w3 169 0) = u2 → (u2 ≠ 0 → pX 355 3566 [some (.ref pSC), some (.ref 0), some (.ref 169), some (.ref 180), some (.ref 181), some (iv x5), some (iv u2), some (iv u4), o8, o9] [] w3 Q) ∧ (u2 = 0 → ((lCmp (gL w3 180 0) (i2L u4)) = 0 → pX 355 3566 [some (.ref pSC), some (.ref 0), some (.ref 169), some (.ref 180), some (.ref 181), some (iv x5), some (iv u2), some (iv u4), o8, o9] [] w3 Q) ∧ ((lCmp (gL w3 180 0) (i2L u4)) ≠ 0 → Q (.inl (some (iv 0))) w3))) ∧ ((gI w3 169 0) ≠ u2 → Q (.inl (some (iv 0))) w3))) Q)) : pX 355 1306 [some (.ref pSC), some (.ref 0), some (.ref 169), some (.ref 180), some (.ref 181), some (iv x5), o6, o7, o8, o9] [] w Q :=
  w_f b355 d355_1306 rfl rfl rfl <| w_f b355 d355_1307 rfl rfl rfl <| w_f b355 d355_1308 rfl rfl rfl <| w_f b355 d355_1310 rfl rfl rfl <| w_f b355 d355_1311 rfl (pf_iadd x5 1) rfl <| w_scl b355 d355_1312 rfl h.1 (bdix (n := sn) h.2.1 hsn) h.2.1 <| w_f b355 d355_1313 rfl rfl rfl <| w_c b355 d355_1314 rfl (pcl_s4 (n := 3) rfl rfl rfl (by decide +kernel) rfl rfl) rfl _ (hK_X rfl (hK_I fun u2 w1 hbu2 hkw1 => w_f b355 d355_1317 rfl rfl rfl <| w_f b355 d355_1319 rfl rfl rfl <| w_f b355 d355_1320 rfl rfl rfl <| w_f b355 d355_1321 rfl rfl rfl <| w_f b355 d355_1323 rfl rfl rfl <| w_f b355 d355_1324 rfl (pf_iadd x5 1) rfl <| w_scl b355 d355_1325 rfl hkw1.2.1 (bdix (n := sn) hkw1.2.2.1 hsn) hkw1.2.2.1 <| w_c b355 d355_1326 rfl (pcl_v (n := 1) rfl rfl rfl (by decide +kernel) (sh_isOb hkw1.1 (tlt 169 rfl) tbC_169) rfl rfl) rfl _ (hK_I fun u4 w3 hbu4 hkw3 => w_f b355 d355_1329 rfl rfl rfl <| w_f b355 d355_1331 rfl rfl rfl <| w_cc b355 d355_1332 rfl (pcl_v (n := 0) rfl rfl rfl (by decide +kernel) (sh_isOb hkw3.1 (tlt 169 rfl) tbC_169) rfl rfl) rfl <| c217 hkw3.1 <| w_f b355 d355_1335 rfl rfl rfl <| w_iceq b355 d355_1337 rfl rfl (by decide +kernel) (bd_gI _ _ _) hbu2 (fun c5 => w_f b355 d355_1342 rfl rfl rfl <| w_ifne b355 d355_1344 rfl rfl (by decide +kernel) hbu2 (fun c6 => w_j b355 d355_1359 rfl (by decide +kernel) <| ((hkw3.2.1 c5).1 c6)) (fun c6 => w_f b355 d355_1347 rfl rfl rfl <| w_f b355 d355_1348 rfl rfl rfl <| w_lal b355 d355_1349 rfl hkw3.1 (tlt 180 rfl) tbC_180 (bdix (n := 1) ⟨by decide, by decide⟩ rfl) ⟨by decide, by decide⟩ <| w_f b355 d355_1350 rfl rfl rfl <| w_f b355 d355_1352 rfl rfl rfl <| w_f b355 d355_1353 rfl (pf_lcmp _ _) rfl <| w_ifeq b355 d355_1354 rfl rfl (by decide +kernel) (bd_toInt _) (fun c7 => w_j b355 d355_1359 rfl (by decide +kernel) <| (((hkw3.2.1 c5).2 c6).1 c7)) (fun c7 => w_f b355 d355_1357 rfl rfl rfl <| w_rz b355 d355_1358 r355 (by decide) (((hkw3.2.1 c5).2 c6).2 c7)))) (fun c5 => w_f b355 d355_1340 rfl rfl rfl <| w_rz b355 d355_1341 r355 (by decide) (hkw3.2.2 c5))) hkw1.2.2.2)) h.2.2
theorem v355_1362 {w : PW} {Q : PO → PW → Prop} {sn : Nat} {sf : Nat → Int32} {x5 : Int} {o6 : Option Value} {o7 : Option Value} {o8 : Option Value} {o9 : Option Value} (hs : Sh w) (hsn : Nat.blt sn 2147483648 = true) (hx5 : bd x5) (ho9 : pc2 o9 = false) (h : (Sc w sn sf) ∧ (0 ≤ (x5 + 1) ∧ (x5 + 1) < sn) ∧ pC 132 [.ref 0, iv ((sf (x5 + 1).toNat).toInt), .ref 180] w (kX (kI fun u2 w1 => Sh w1 ∧ (Sc w1 sn sf) ∧ (0 ≤ (x5 + 1) ∧ (x5 + 1) < sn) ∧ pC 302 [.ref 169, iv ((sf (x5 + 1).toNat).toInt)] w1 (kI fun u4 w3 => Sh w3 ∧ ((gI w3 169 0) = u2 → (u2 ≠ 0 → pX 355 3566 [some (.ref pSC), some (.ref 0), some (.ref 169), some (.ref 180), some (.ref 181), some (iv x5), some (iv u2), some (iv u4), o8, o9] [] w3 Q) ∧ (u2 = 0 → ((lCmp (gL w3 180 0) (i2L u4)) = 0 → pX 355 3566 [some (.ref pSC), some (.ref 0), some (.ref 169), some (.ref 180), some (.ref 181), some (iv x5), some (iv u2), some (iv u4), o8, o9] [] w3 Q) ∧ ((lCmp (gL w3 180 0) (i2L u4)) ≠ 0 → Q (.inl (some (iv 0))) w3))) ∧ ((gI w3 169 0) ≠ u2 → Q (.inl (some (iv 0))) w3))) Q)) : pX 355 1362 [some (.ref pSC), some (.ref 0), some (.ref 169), some (.ref 180), some (.ref 181), some (iv x5), o6, o7, o8, o9] [] w Q :=
  w_f b355 d355_1362 rfl rfl rfl <| w_f b355 d355_1363 rfl rfl rfl <| w_f b355 d355_1364 rfl rfl rfl <| w_f b355 d355_1366 rfl rfl rfl <| w_f b355 d355_1367 rfl (pf_iadd x5 1) rfl <| w_scl b355 d355_1368 rfl h.1 (bdix (n := sn) h.2.1 hsn) h.2.1 <| w_f b355 d355_1369 rfl rfl rfl <| w_c b355 d355_1370 rfl (pcl_s4 (n := 3) rfl rfl rfl (by decide +kernel) rfl rfl) rfl _ (hK_X rfl (hK_I fun u2 w1 hbu2 hkw1 => w_f b355 d355_1373 rfl rfl rfl <| w_f b355 d355_1375 rfl rfl rfl <| w_f b355 d355_1376 rfl rfl rfl <| w_f b355 d355_1377 rfl rfl rfl <| w_f b355 d355_1379 rfl rfl rfl <| w_f b355 d355_1380 rfl (pf_iadd x5 1) rfl <| w_scl b355 d355_1381 rfl hkw1.2.1 (bdix (n := sn) hkw1.2.2.1 hsn) hkw1.2.2.1 <| w_c b355 d355_1382 rfl (pcl_v (n := 1) rfl rfl rfl (by decide +kernel) (sh_isOb hkw1.1 (tlt 169 rfl) tbC_169) rfl rfl) rfl _ (hK_I fun u4 w3 hbu4 hkw3 => w_f b355 d355_1385 rfl rfl rfl <| w_f b355 d355_1387 rfl rfl rfl <| w_cc b355 d355_1388 rfl (pcl_v (n := 0) rfl rfl rfl (by decide +kernel) (sh_isOb hkw3.1 (tlt 169 rfl) tbC_169) rfl rfl) rfl <| c217 hkw3.1 <| w_f b355 d355_1391 rfl rfl rfl <| w_iceq b355 d355_1393 rfl rfl (by decide +kernel) (bd_gI _ _ _) hbu2 (fun c5 => w_f b355 d355_1398 rfl rfl rfl <| w_ifne b355 d355_1400 rfl rfl (by decide +kernel) hbu2 (fun c6 => w_j b355 d355_1415 rfl (by decide +kernel) <| ((hkw3.2.1 c5).1 c6)) (fun c6 => w_f b355 d355_1403 rfl rfl rfl <| w_f b355 d355_1404 rfl rfl rfl <| w_lal b355 d355_1405 rfl hkw3.1 (tlt 180 rfl) tbC_180 (bdix (n := 1) ⟨by decide, by decide⟩ rfl) ⟨by decide, by decide⟩ <| w_f b355 d355_1406 rfl rfl rfl <| w_f b355 d355_1408 rfl rfl rfl <| w_f b355 d355_1409 rfl (pf_lcmp _ _) rfl <| w_ifeq b355 d355_1410 rfl rfl (by decide +kernel) (bd_toInt _) (fun c7 => w_j b355 d355_1415 rfl (by decide +kernel) <| (((hkw3.2.1 c5).2 c6).1 c7)) (fun c7 => w_f b355 d355_1413 rfl rfl rfl <| w_rz b355 d355_1414 r355 (by decide) (((hkw3.2.1 c5).2 c6).2 c7)))) (fun c5 => w_f b355 d355_1396 rfl rfl rfl <| w_rz b355 d355_1397 r355 (by decide) (hkw3.2.2 c5))) hkw1.2.2.2)) h.2.2
theorem v355_1418 {w : PW} {Q : PO → PW → Prop} {sn : Nat} {sf : Nat → Int32} {x5 : Int} {o6 : Option Value} {o7 : Option Value} {o8 : Option Value} {o9 : Option Value} (hs : Sh w) (hsn : Nat.blt sn 2147483648 = true) (hx5 : bd x5) (ho9 : pc2 o9 = false) (h : (Sc w sn sf) ∧ (0 ≤ (x5 + 1) ∧ (x5 + 1) < sn) ∧ pC 135 [.ref 0, iv ((sf (x5 + 1).toNat).toInt), .ref 180] w (kX (kI fun u2 w1 => Sh w1 ∧ (Sc w1 sn sf) ∧ (0 ≤ (x5 + 1) ∧ (x5 + 1) < sn) ∧ pC 303 [.ref 169, iv ((sf (x5 + 1).toNat).toInt)] w1 (kI fun u4 w3 => Sh w3 ∧ ((gI w3 169 0) = u2 → (u2 ≠ 0 → pX 355 3566 [some (.ref pSC), some (.ref 0), some (.ref 169), some (.ref 180), some (.ref 181), some (iv x5), some (iv u2), some (iv u4), o8, o9] [] w3 Q) ∧ (u2 = 0 → ((lCmp (gL w3 180 0) (i2L u4)) = 0 → pX 355 3566 [some (.ref pSC), some (.ref 0), some (.ref 169), some (.ref 180), some (.ref 181), some (iv x5), some (iv u2), some (iv u4), o8, o9] [] w3 Q) ∧ ((lCmp (gL w3 180 0) (i2L u4)) ≠ 0 → Q (.inl (some (iv 0))) w3))) ∧ ((gI w3 169 0) ≠ u2 → Q (.inl (some (iv 0))) w3))) Q)) : pX 355 1418 [some (.ref pSC), some (.ref 0), some (.ref 169), some (.ref 180), some (.ref 181), some (iv x5), o6, o7, o8, o9] [] w Q :=
  w_f b355 d355_1418 rfl rfl rfl <| w_f b355 d355_1419 rfl rfl rfl <| w_f b355 d355_1420 rfl rfl rfl <| w_f b355 d355_1422 rfl rfl rfl <| w_f b355 d355_1423 rfl (pf_iadd x5 1) rfl <| w_scl b355 d355_1424 rfl h.1 (bdix (n := sn) h.2.1 hsn) h.2.1 <| w_f b355 d355_1425 rfl rfl rfl <| w_c b355 d355_1426 rfl (pcl_s4 (n := 3) rfl rfl rfl (by decide +kernel) rfl rfl) rfl _ (hK_X rfl (hK_I fun u2 w1 hbu2 hkw1 => w_f b355 d355_1429 rfl rfl rfl <| w_f b355 d355_1431 rfl rfl rfl <| w_f b355 d355_1432 rfl rfl rfl <| w_f b355 d355_1433 rfl rfl rfl <| w_f b355 d355_1435 rfl rfl rfl <| w_f b355 d355_1436 rfl (pf_iadd x5 1) rfl <| w_scl b355 d355_1437 rfl hkw1.2.1 (bdix (n := sn) hkw1.2.2.1 hsn) hkw1.2.2.1 <| w_c b355 d355_1438 rfl (pcl_v (n := 1) rfl rfl rfl (by decide +kernel) (sh_isOb hkw1.1 (tlt 169 rfl) tbC_169) rfl rfl) rfl _ (hK_I fun u4 w3 hbu4 hkw3 => w_f b355 d355_1441 rfl rfl rfl <| w_f b355 d355_1443 rfl rfl rfl <| w_cc b355 d355_1444 rfl (pcl_v (n := 0) rfl rfl rfl (by decide +kernel) (sh_isOb hkw3.1 (tlt 169 rfl) tbC_169) rfl rfl) rfl <| c217 hkw3.1 <| w_f b355 d355_1447 rfl rfl rfl <| w_iceq b355 d355_1449 rfl rfl (by decide +kernel) (bd_gI _ _ _) hbu2 (fun c5 => w_f b355 d355_1454 rfl rfl rfl <| w_ifne b355 d355_1456 rfl rfl (by decide +kernel) hbu2 (fun c6 => w_j b355 d355_1471 rfl (by decide +kernel) <| ((hkw3.2.1 c5).1 c6)) (fun c6 => w_f b355 d355_1459 rfl rfl rfl <| w_f b355 d355_1460 rfl rfl rfl <| w_lal b355 d355_1461 rfl hkw3.1 (tlt 180 rfl) tbC_180 (bdix (n := 1) ⟨by decide, by decide⟩ rfl) ⟨by decide, by decide⟩ <| w_f b355 d355_1462 rfl rfl rfl <| w_f b355 d355_1464 rfl rfl rfl <| w_f b355 d355_1465 rfl (pf_lcmp _ _) rfl <| w_ifeq b355 d355_1466 rfl rfl (by decide +kernel) (bd_toInt _) (fun c7 => w_j b355 d355_1471 rfl (by decide +kernel) <| (((hkw3.2.1 c5).2 c6).1 c7)) (fun c7 => w_f b355 d355_1469 rfl rfl rfl <| w_rz b355 d355_1470 r355 (by decide) (((hkw3.2.1 c5).2 c6).2 c7)))) (fun c5 => w_f b355 d355_1452 rfl rfl rfl <| w_rz b355 d355_1453 r355 (by decide) (hkw3.2.2 c5))) hkw1.2.2.2)) h.2.2
theorem v355_1474 {w : PW} {Q : PO → PW → Prop} {sn : Nat} {sf : Nat → Int32} {x5 : Int} {o6 : Option Value} {o7 : Option Value} {o8 : Option Value} {o9 : Option Value} (hs : Sh w) (hsn : Nat.blt sn 2147483648 = true) (hx5 : bd x5) (ho9 : pc2 o9 = false) (h : (Sc w sn sf) ∧ (0 ≤ (x5 + 1) ∧ (x5 + 1) < sn) ∧ pC 137 [.ref 0, iv ((sf (x5 + 1).toNat).toInt), .ref 180] w (kX (kI fun u2 w1 => Sh w1 ∧ (Sc w1 sn sf) ∧ (0 ≤ (x5 + 1) ∧ (x5 + 1) < sn) ∧ pC 304 [.ref 169, iv ((sf (x5 + 1).toNat).toInt)] w1 (kI fun u4 w3 => Sh w3 ∧ ((gI w3 169 0) = u2 → (u2 ≠ 0 → pX 355 3566 [some (.ref pSC), some (.ref 0), some (.ref 169), some (.ref 180), some (.ref 181), some (iv x5), some (iv u2), some (iv u4), o8, o9] [] w3 Q) ∧ (u2 = 0 → ((lCmp (gL w3 180 0) (i2L u4)) = 0 → pX 355 3566 [some (.ref pSC), some (.ref 0), some (.ref 169), some (.ref 180), some (.ref 181), some (iv x5), some (iv u2), some (iv u4), o8, o9] [] w3 Q) ∧ ((lCmp (gL w3 180 0) (i2L u4)) ≠ 0 → Q (.inl (some (iv 0))) w3))) ∧ ((gI w3 169 0) ≠ u2 → Q (.inl (some (iv 0))) w3))) Q)) : pX 355 1474 [some (.ref pSC), some (.ref 0), some (.ref 169), some (.ref 180), some (.ref 181), some (iv x5), o6, o7, o8, o9] [] w Q :=
  w_f b355 d355_1474 rfl rfl rfl <| w_f b355 d355_1475 rfl rfl rfl <| w_f b355 d355_1476 rfl rfl rfl <| w_f b355 d355_1478 rfl rfl rfl <| w_f b355 d355_1479 rfl (pf_iadd x5 1) rfl <| w_scl b355 d355_1480 rfl h.1 (bdix (n := sn) h.2.1 hsn) h.2.1 <| w_f b355 d355_1481 rfl rfl rfl <| w_c b355 d355_1482 rfl (pcl_s4 (n := 3) rfl rfl rfl (by decide +kernel) rfl rfl) rfl _ (hK_X rfl (hK_I fun u2 w1 hbu2 hkw1 => w_f b355 d355_1485 rfl rfl rfl <| w_f b355 d355_1487 rfl rfl rfl <| w_f b355 d355_1488 rfl rfl rfl <| w_f b355 d355_1489 rfl rfl rfl <| w_f b355 d355_1491 rfl rfl rfl <| w_f b355 d355_1492 rfl (pf_iadd x5 1) rfl <| w_scl b355 d355_1493 rfl hkw1.2.1 (bdix (n := sn) hkw1.2.2.1 hsn) hkw1.2.2.1 <| w_c b355 d355_1494 rfl (pcl_v (n := 1) rfl rfl rfl (by decide +kernel) (sh_isOb hkw1.1 (tlt 169 rfl) tbC_169) rfl rfl) rfl _ (hK_I fun u4 w3 hbu4 hkw3 => w_f b355 d355_1497 rfl rfl rfl <| w_f b355 d355_1499 rfl rfl rfl <| w_cc b355 d355_1500 rfl (pcl_v (n := 0) rfl rfl rfl (by decide +kernel) (sh_isOb hkw3.1 (tlt 169 rfl) tbC_169) rfl rfl) rfl <| c217 hkw3.1 <| w_f b355 d355_1503 rfl rfl rfl <| w_iceq b355 d355_1505 rfl rfl (by decide +kernel) (bd_gI _ _ _) hbu2 (fun c5 => w_f b355 d355_1510 rfl rfl rfl <| w_ifne b355 d355_1512 rfl rfl (by decide +kernel) hbu2 (fun c6 => w_j b355 d355_1527 rfl (by decide +kernel) <| ((hkw3.2.1 c5).1 c6)) (fun c6 => w_f b355 d355_1515 rfl rfl rfl <| w_f b355 d355_1516 rfl rfl rfl <| w_lal b355 d355_1517 rfl hkw3.1 (tlt 180 rfl) tbC_180 (bdix (n := 1) ⟨by decide, by decide⟩ rfl) ⟨by decide, by decide⟩ <| w_f b355 d355_1518 rfl rfl rfl <| w_f b355 d355_1520 rfl rfl rfl <| w_f b355 d355_1521 rfl (pf_lcmp _ _) rfl <| w_ifeq b355 d355_1522 rfl rfl (by decide +kernel) (bd_toInt _) (fun c7 => w_j b355 d355_1527 rfl (by decide +kernel) <| (((hkw3.2.1 c5).2 c6).1 c7)) (fun c7 => w_f b355 d355_1525 rfl rfl rfl <| w_rz b355 d355_1526 r355 (by decide) (((hkw3.2.1 c5).2 c6).2 c7)))) (fun c5 => w_f b355 d355_1508 rfl rfl rfl <| w_rz b355 d355_1509 r355 (by decide) (hkw3.2.2 c5))) hkw1.2.2.2)) h.2.2
theorem v355_1530 {w : PW} {Q : PO → PW → Prop} {sn : Nat} {sf : Nat → Int32} {x5 : Int} {o6 : Option Value} {o7 : Option Value} {o8 : Option Value} {o9 : Option Value} (hs : Sh w) (hsn : Nat.blt sn 2147483648 = true) (hx5 : bd x5) (ho9 : pc2 o9 = false) (h : (Sc w sn sf) ∧ (0 ≤ (x5 + 1) ∧ (x5 + 1) < sn) ∧ pC 139 [.ref 0, iv ((sf (x5 + 1).toNat).toInt), .ref 180] w (kX (kI fun u2 w1 => Sh w1 ∧ (Sc w1 sn sf) ∧ (0 ≤ (x5 + 1) ∧ (x5 + 1) < sn) ∧ pC 305 [.ref 169, iv ((sf (x5 + 1).toNat).toInt)] w1 (kI fun u4 w3 => Sh w3 ∧ ((gI w3 169 0) = u2 → (u2 ≠ 0 → pX 355 3566 [some (.ref pSC), some (.ref 0), some (.ref 169), some (.ref 180), some (.ref 181), some (iv x5), some (iv u2), some (iv u4), o8, o9] [] w3 Q) ∧ (u2 = 0 → ((lCmp (gL w3 180 0) (i2L u4)) = 0 → pX 355 3566 [some (.ref pSC), some (.ref 0), some (.ref 169), some (.ref 180), some (.ref 181), some (iv x5), some (iv u2), some (iv u4), o8, o9] [] w3 Q) ∧ ((lCmp (gL w3 180 0) (i2L u4)) ≠ 0 → Q (.inl (some (iv 0))) w3))) ∧ ((gI w3 169 0) ≠ u2 → Q (.inl (some (iv 0))) w3))) Q)) : pX 355 1530 [some (.ref pSC), some (.ref 0), some (.ref 169), some (.ref 180), some (.ref 181), some (iv x5), o6, o7, o8, o9] [] w Q :=
  w_f b355 d355_1530 rfl rfl rfl <| w_f b355 d355_1531 rfl rfl rfl <| w_f b355 d355_1532 rfl rfl rfl <| w_f b355 d355_1534 rfl rfl rfl <| w_f b355 d355_1535 rfl (pf_iadd x5 1) rfl <| w_scl b355 d355_1536 rfl h.1 (bdix (n := sn) h.2.1 hsn) h.2.1 <| w_f b355 d355_1537 rfl rfl rfl <| w_c b355 d355_1538 rfl (pcl_s4 (n := 3) rfl rfl rfl (by decide +kernel) rfl rfl) rfl _ (hK_X rfl (hK_I fun u2 w1 hbu2 hkw1 => w_f b355 d355_1541 rfl rfl rfl <| w_f b355 d355_1543 rfl rfl rfl <| w_f b355 d355_1544 rfl rfl rfl <| w_f b355 d355_1545 rfl rfl rfl <| w_f b355 d355_1547 rfl rfl rfl <| w_f b355 d355_1548 rfl (pf_iadd x5 1) rfl <| w_scl b355 d355_1549 rfl hkw1.2.1 (bdix (n := sn) hkw1.2.2.1 hsn) hkw1.2.2.1 <| w_c b355 d355_1550 rfl (pcl_v (n := 1) rfl rfl rfl (by decide +kernel) (sh_isOb hkw1.1 (tlt 169 rfl) tbC_169) rfl rfl) rfl _ (hK_I fun u4 w3 hbu4 hkw3 => w_f b355 d355_1553 rfl rfl rfl <| w_f b355 d355_1555 rfl rfl rfl <| w_cc b355 d355_1556 rfl (pcl_v (n := 0) rfl rfl rfl (by decide +kernel) (sh_isOb hkw3.1 (tlt 169 rfl) tbC_169) rfl rfl) rfl <| c217 hkw3.1 <| w_f b355 d355_1559 rfl rfl rfl <| w_iceq b355 d355_1561 rfl rfl (by decide +kernel) (bd_gI _ _ _) hbu2 (fun c5 => w_f b355 d355_1566 rfl rfl rfl <| w_ifne b355 d355_1568 rfl rfl (by decide +kernel) hbu2 (fun c6 => w_j b355 d355_1583 rfl (by decide +kernel) <| ((hkw3.2.1 c5).1 c6)) (fun c6 => w_f b355 d355_1571 rfl rfl rfl <| w_f b355 d355_1572 rfl rfl rfl <| w_lal b355 d355_1573 rfl hkw3.1 (tlt 180 rfl) tbC_180 (bdix (n := 1) ⟨by decide, by decide⟩ rfl) ⟨by decide, by decide⟩ <| w_f b355 d355_1574 rfl rfl rfl <| w_f b355 d355_1576 rfl rfl rfl <| w_f b355 d355_1577 rfl (pf_lcmp _ _) rfl <| w_ifeq b355 d355_1578 rfl rfl (by decide +kernel) (bd_toInt _) (fun c7 => w_j b355 d355_1583 rfl (by decide +kernel) <| (((hkw3.2.1 c5).2 c6).1 c7)) (fun c7 => w_f b355 d355_1581 rfl rfl rfl <| w_rz b355 d355_1582 r355 (by decide) (((hkw3.2.1 c5).2 c6).2 c7)))) (fun c5 => w_f b355 d355_1564 rfl rfl rfl <| w_rz b355 d355_1565 r355 (by decide) (hkw3.2.2 c5))) hkw1.2.2.2)) h.2.2
theorem v355_1586 {w : PW} {Q : PO → PW → Prop} {sn : Nat} {sf : Nat → Int32} {x5 : Int} {o6 : Option Value} {o7 : Option Value} {o8 : Option Value} {o9 : Option Value} (hs : Sh w) (hsn : Nat.blt sn 2147483648 = true) (hx5 : bd x5) (ho9 : pc2 o9 = false) (h : (Sc w sn sf) ∧ (0 ≤ (x5 + 1) ∧ (x5 + 1) < sn) ∧ pC 142 [.ref 0, iv ((sf (x5 + 1).toNat).toInt), .ref 180] w (kX (kI fun u2 w1 => Sh w1 ∧ (Sc w1 sn sf) ∧ (0 ≤ (x5 + 1) ∧ (x5 + 1) < sn) ∧ pC 306 [.ref 169, iv ((sf (x5 + 1).toNat).toInt)] w1 (kI fun u4 w3 => Sh w3 ∧ ((gI w3 169 0) = u2 → (u2 ≠ 0 → pX 355 3566 [some (.ref pSC), some (.ref 0), some (.ref 169), some (.ref 180), some (.ref 181), some (iv x5), some (iv u2), some (iv u4), o8, o9] [] w3 Q) ∧ (u2 = 0 → ((lCmp (gL w3 180 0) (i2L u4)) = 0 → pX 355 3566 [some (.ref pSC), some (.ref 0), some (.ref 169), some (.ref 180), some (.ref 181), some (iv x5), some (iv u2), some (iv u4), o8, o9] [] w3 Q) ∧ ((lCmp (gL w3 180 0) (i2L u4)) ≠ 0 → Q (.inl (some (iv 0))) w3))) ∧ ((gI w3 169 0) ≠ u2 → Q (.inl (some (iv 0))) w3))) Q)) : pX 355 1586 [some (.ref pSC), some (.ref 0), some (.ref 169), some (.ref 180), some (.ref 181), some (iv x5), o6, o7, o8, o9] [] w Q :=
  w_f b355 d355_1586 rfl rfl rfl <| w_f b355 d355_1587 rfl rfl rfl <| w_f b355 d355_1588 rfl rfl rfl <| w_f b355 d355_1590 rfl rfl rfl <| w_f b355 d355_1591 rfl (pf_iadd x5 1) rfl <| w_scl b355 d355_1592 rfl h.1 (bdix (n := sn) h.2.1 hsn) h.2.1 <| w_f b355 d355_1593 rfl rfl rfl <| w_c b355 d355_1594 rfl (pcl_s4 (n := 3) rfl rfl rfl (by decide +kernel) rfl rfl) rfl _ (hK_X rfl (hK_I fun u2 w1 hbu2 hkw1 => w_f b355 d355_1597 rfl rfl rfl <| w_f b355 d355_1599 rfl rfl rfl <| w_f b355 d355_1600 rfl rfl rfl <| w_f b355 d355_1601 rfl rfl rfl <| w_f b355 d355_1603 rfl rfl rfl <| w_f b355 d355_1604 rfl (pf_iadd x5 1) rfl <| w_scl b355 d355_1605 rfl hkw1.2.1 (bdix (n := sn) hkw1.2.2.1 hsn) hkw1.2.2.1 <| w_c b355 d355_1606 rfl (pcl_v (n := 1) rfl rfl rfl (by decide +kernel) (sh_isOb hkw1.1 (tlt 169 rfl) tbC_169) rfl rfl) rfl _ (hK_I fun u4 w3 hbu4 hkw3 => w_f b355 d355_1609 rfl rfl rfl <| w_f b355 d355_1611 rfl rfl rfl <| w_cc b355 d355_1612 rfl (pcl_v (n := 0) rfl rfl rfl (by decide +kernel) (sh_isOb hkw3.1 (tlt 169 rfl) tbC_169) rfl rfl) rfl <| c217 hkw3.1 <| w_f b355 d355_1615 rfl rfl rfl <| w_iceq b355 d355_1617 rfl rfl (by decide +kernel) (bd_gI _ _ _) hbu2 (fun c5 => w_f b355 d355_1622 rfl rfl rfl <| w_ifne b355 d355_1624 rfl rfl (by decide +kernel) hbu2 (fun c6 => w_j b355 d355_1639 rfl (by decide +kernel) <| ((hkw3.2.1 c5).1 c6)) (fun c6 => w_f b355 d355_1627 rfl rfl rfl <| w_f b355 d355_1628 rfl rfl rfl <| w_lal b355 d355_1629 rfl hkw3.1 (tlt 180 rfl) tbC_180 (bdix (n := 1) ⟨by decide, by decide⟩ rfl) ⟨by decide, by decide⟩ <| w_f b355 d355_1630 rfl rfl rfl <| w_f b355 d355_1632 rfl rfl rfl <| w_f b355 d355_1633 rfl (pf_lcmp _ _) rfl <| w_ifeq b355 d355_1634 rfl rfl (by decide +kernel) (bd_toInt _) (fun c7 => w_j b355 d355_1639 rfl (by decide +kernel) <| (((hkw3.2.1 c5).2 c6).1 c7)) (fun c7 => w_f b355 d355_1637 rfl rfl rfl <| w_rz b355 d355_1638 r355 (by decide) (((hkw3.2.1 c5).2 c6).2 c7)))) (fun c5 => w_f b355 d355_1620 rfl rfl rfl <| w_rz b355 d355_1621 r355 (by decide) (hkw3.2.2 c5))) hkw1.2.2.2)) h.2.2
theorem v355_1642 {w : PW} {Q : PO → PW → Prop} {sn : Nat} {sf : Nat → Int32} {x5 : Int} {o6 : Option Value} {o7 : Option Value} {o8 : Option Value} {o9 : Option Value} (hs : Sh w) (hsn : Nat.blt sn 2147483648 = true) (hx5 : bd x5) (ho9 : pc2 o9 = false) (h : (Sc w sn sf) ∧ (0 ≤ (x5 + 1) ∧ (x5 + 1) < sn) ∧ pC 145 [.ref 0, iv ((sf (x5 + 1).toNat).toInt), .ref 180] w (kX (kI fun u2 w1 => Sh w1 ∧ (Sc w1 sn sf) ∧ (0 ≤ (x5 + 1) ∧ (x5 + 1) < sn) ∧ pC 308 [.ref 169, iv ((sf (x5 + 1).toNat).toInt)] w1 (kI fun u4 w3 => Sh w3 ∧ ((gI w3 169 0) = u2 → (u2 ≠ 0 → pX 355 3566 [some (.ref pSC), some (.ref 0), some (.ref 169), some (.ref 180), some (.ref 181), some (iv x5), some (iv u2), some (iv u4), o8, o9] [] w3 Q) ∧ (u2 = 0 → ((lCmp (gL w3 180 0) (i2L u4)) = 0 → pX 355 3566 [some (.ref pSC), some (.ref 0), some (.ref 169), some (.ref 180), some (.ref 181), some (iv x5), some (iv u2), some (iv u4), o8, o9] [] w3 Q) ∧ ((lCmp (gL w3 180 0) (i2L u4)) ≠ 0 → Q (.inl (some (iv 0))) w3))) ∧ ((gI w3 169 0) ≠ u2 → Q (.inl (some (iv 0))) w3))) Q)) : pX 355 1642 [some (.ref pSC), some (.ref 0), some (.ref 169), some (.ref 180), some (.ref 181), some (iv x5), o6, o7, o8, o9] [] w Q :=
  w_f b355 d355_1642 rfl rfl rfl <| w_f b355 d355_1643 rfl rfl rfl <| w_f b355 d355_1644 rfl rfl rfl <| w_f b355 d355_1646 rfl rfl rfl <| w_f b355 d355_1647 rfl (pf_iadd x5 1) rfl <| w_scl b355 d355_1648 rfl h.1 (bdix (n := sn) h.2.1 hsn) h.2.1 <| w_f b355 d355_1649 rfl rfl rfl <| w_c b355 d355_1650 rfl (pcl_s4 (n := 3) rfl rfl rfl (by decide +kernel) rfl rfl) rfl _ (hK_X rfl (hK_I fun u2 w1 hbu2 hkw1 => w_f b355 d355_1653 rfl rfl rfl <| w_f b355 d355_1655 rfl rfl rfl <| w_f b355 d355_1656 rfl rfl rfl <| w_f b355 d355_1657 rfl rfl rfl <| w_f b355 d355_1659 rfl rfl rfl <| w_f b355 d355_1660 rfl (pf_iadd x5 1) rfl <| w_scl b355 d355_1661 rfl hkw1.2.1 (bdix (n := sn) hkw1.2.2.1 hsn) hkw1.2.2.1 <| w_c b355 d355_1662 rfl (pcl_v (n := 1) rfl rfl rfl (by decide +kernel) (sh_isOb hkw1.1 (tlt 169 rfl) tbC_169) rfl rfl) rfl _ (hK_I fun u4 w3 hbu4 hkw3 => w_f b355 d355_1665 rfl rfl rfl <| w_f b355 d355_1667 rfl rfl rfl <| w_cc b355 d355_1668 rfl (pcl_v (n := 0) rfl rfl rfl (by decide +kernel) (sh_isOb hkw3.1 (tlt 169 rfl) tbC_169) rfl rfl) rfl <| c217 hkw3.1 <| w_f b355 d355_1671 rfl rfl rfl <| w_iceq b355 d355_1673 rfl rfl (by decide +kernel) (bd_gI _ _ _) hbu2 (fun c5 => w_f b355 d355_1678 rfl rfl rfl <| w_ifne b355 d355_1680 rfl rfl (by decide +kernel) hbu2 (fun c6 => w_j b355 d355_1695 rfl (by decide +kernel) <| ((hkw3.2.1 c5).1 c6)) (fun c6 => w_f b355 d355_1683 rfl rfl rfl <| w_f b355 d355_1684 rfl rfl rfl <| w_lal b355 d355_1685 rfl hkw3.1 (tlt 180 rfl) tbC_180 (bdix (n := 1) ⟨by decide, by decide⟩ rfl) ⟨by decide, by decide⟩ <| w_f b355 d355_1686 rfl rfl rfl <| w_f b355 d355_1688 rfl rfl rfl <| w_f b355 d355_1689 rfl (pf_lcmp _ _) rfl <| w_ifeq b355 d355_1690 rfl rfl (by decide +kernel) (bd_toInt _) (fun c7 => w_j b355 d355_1695 rfl (by decide +kernel) <| (((hkw3.2.1 c5).2 c6).1 c7)) (fun c7 => w_f b355 d355_1693 rfl rfl rfl <| w_rz b355 d355_1694 r355 (by decide) (((hkw3.2.1 c5).2 c6).2 c7)))) (fun c5 => w_f b355 d355_1676 rfl rfl rfl <| w_rz b355 d355_1677 r355 (by decide) (hkw3.2.2 c5))) hkw1.2.2.2)) h.2.2
theorem v355_1698 {w : PW} {Q : PO → PW → Prop} {sn : Nat} {sf : Nat → Int32} {x5 : Int} {o6 : Option Value} {o7 : Option Value} {o8 : Option Value} {o9 : Option Value} (hs : Sh w) (hsn : Nat.blt sn 2147483648 = true) (hx5 : bd x5) (ho9 : pc2 o9 = false) (h : (Sc w sn sf) ∧ (0 ≤ (x5 + 1) ∧ (x5 + 1) < sn) ∧ (Sc w sn sf) ∧ (0 ≤ (x5 + 2) ∧ (x5 + 2) < sn) ∧ pC 148 [.ref 0, iv ((sf (x5 + 1).toNat).toInt), iv ((sf (x5 + 2).toNat).toInt), .ref 180] w (kX (kI fun u2 w1 => Sh w1 ∧ (Sc w1 sn sf) ∧ (0 ≤ (x5 + 1) ∧ (x5 + 1) < sn) ∧ (Sc w1 sn sf) ∧ (0 ≤ (x5 + 2) ∧ (x5 + 2) < sn) ∧ pC 311 [.ref 169, iv ((sf (x5 + 1).toNat).toInt), iv ((sf (x5 + 2).toNat).toInt)] w1 (kI fun u4 w3 => Sh w3 ∧ ((gI w3 169 0) = u2 → (u2 ≠ 0 → pX 355 3566 [some (.ref pSC), some (.ref 0), some (.ref 169), some (.ref 180), some (.ref 181), some (iv x5), some (iv u2), some (iv u4), o8, o9] [] w3 Q) ∧ (u2 = 0 → ((lCmp (gL w3 180 0) (i2L u4)) = 0 → pX 355 3566 [some (.ref pSC), some (.ref 0), some (.ref 169), some (.ref 180), some (.ref 181), some (iv x5), some (iv u2), some (iv u4), o8, o9] [] w3 Q) ∧ ((lCmp (gL w3 180 0) (i2L u4)) ≠ 0 → Q (.inl (some (iv 0))) w3))) ∧ ((gI w3 169 0) ≠ u2 → Q (.inl (some (iv 0))) w3))) Q)) : pX 355 1698 [some (.ref pSC), some (.ref 0), some (.ref 169), some (.ref 180), some (.ref 181), some (iv x5), o6, o7, o8, o9] [] w Q :=
  w_f b355 d355_1698 rfl rfl rfl <| w_f b355 d355_1699 rfl rfl rfl <| w_f b355 d355_1700 rfl rfl rfl <| w_f b355 d355_1702 rfl rfl rfl <| w_f b355 d355_1703 rfl (pf_iadd x5 1) rfl <| w_scl b355 d355_1704 rfl h.1 (bdix (n := sn) h.2.1 hsn) h.2.1 <| w_f b355 d355_1705 rfl rfl rfl <| w_f b355 d355_1706 rfl rfl rfl <| w_f b355 d355_1708 rfl rfl rfl <| w_f b355 d355_1709 rfl (pf_iadd x5 2) rfl <| w_scl b355 d355_1710 rfl h.2.2.1 (bdix (n := sn) h.2.2.2.1 hsn) h.2.2.2.1 <| w_f b355 d355_1711 rfl rfl rfl <| w_c b355 d355_1712 rfl (pcl_s4 (n := 4) rfl rfl rfl (by decide +kernel) rfl rfl) rfl _ (hK_X rfl (hK_I fun u2 w1 hbu2 hkw1 => w_f b355 d355_1715 rfl rfl rfl <| w_f b355 d355_1717 rfl rfl rfl <| w_f b355 d355_1718 rfl rfl rfl <| w_f b355 d355_1719 rfl rfl rfl <| w_f b355 d355_1721 rfl rfl rfl <| w_f b355 d355_1722 rfl (pf_iadd x5 1) rfl <| w_scl b355 d355_1723 rfl hkw1.2.1 (bdix (n := sn) hkw1.2.2.1 hsn) hkw1.2.2.1 <| w_f b355 d355_1724 rfl rfl rfl <| w_f b355 d355_1725 rfl rfl rfl <| w_f b355 d355_1727 rfl rfl rfl <| w_f b355 d355_1728 rfl (pf_iadd x5 2) rfl <| w_scl b355 d355_1729 rfl hkw1.2.2.2.1 (bdix (n := sn) hkw1.2.2.2.2.1 hsn) hkw1.2.2.2.2.1 <| w_c b355 d355_1730 rfl (pcl_v (n := 2) rfl rfl rfl (by decide +kernel) (sh_isOb hkw1.1 (tlt 169 rfl) tbC_169) rfl rfl) rfl _ (hK_I fun u4 w3 hbu4 hkw3 => w_f b355 d355_1733 rfl rfl rfl <| w_f b355 d355_1735 rfl rfl rfl <| w_cc b355 d355_1736 rfl (pcl_v (n := 0) rfl rfl rfl (by decide +kernel) (sh_isOb hkw3.1 (tlt 169 rfl) tbC_169) rfl rfl) rfl <| c217 hkw3.1 <| w_f b355 d355_1739 rfl rfl rfl <| w_iceq b355 d355_1741 rfl rfl (by decide +kernel) (bd_gI _ _ _) hbu2 (fun c5 => w_f b355 d355_1746 rfl rfl rfl <| w_ifne b355 d355_1748 rfl rfl (by decide +kernel) hbu2 (fun c6 => w_j b355 d355_1763 rfl (by decide +kernel) <| ((hkw3.2.1 c5).1 c6)) (fun c6 => w_f b355 d355_1751 rfl rfl rfl <| w_f b355 d355_1752 rfl rfl rfl <| w_lal b355 d355_1753 rfl hkw3.1 (tlt 180 rfl) tbC_180 (bdix (n := 1) ⟨by decide, by decide⟩ rfl) ⟨by decide, by decide⟩ <| w_f b355 d355_1754 rfl rfl rfl <| w_f b355 d355_1756 rfl rfl rfl <| w_f b355 d355_1757 rfl (pf_lcmp _ _) rfl <| w_ifeq b355 d355_1758 rfl rfl (by decide +kernel) (bd_toInt _) (fun c7 => w_j b355 d355_1763 rfl (by decide +kernel) <| (((hkw3.2.1 c5).2 c6).1 c7)) (fun c7 => w_f b355 d355_1761 rfl rfl rfl <| w_rz b355 d355_1762 r355 (by decide) (((hkw3.2.1 c5).2 c6).2 c7)))) (fun c5 => w_f b355 d355_1744 rfl rfl rfl <| w_rz b355 d355_1745 r355 (by decide) (hkw3.2.2 c5))) hkw1.2.2.2.2.2)) h.2.2.2.2
theorem v355_1766 {w : PW} {Q : PO → PW → Prop} {sn : Nat} {sf : Nat → Int32} {x5 : Int} {o6 : Option Value} {o7 : Option Value} {o8 : Option Value} {o9 : Option Value} (hs : Sh w) (hsn : Nat.blt sn 2147483648 = true) (hx5 : bd x5) (ho9 : pc2 o9 = false) (h : (Sc w sn sf) ∧ (0 ≤ (x5 + 1) ∧ (x5 + 1) < sn) ∧ pC 150 [.ref 0, iv ((sf (x5 + 1).toNat).toInt), .ref 180] w (kX (kI fun u2 w1 => Sh w1 ∧ (Sc w1 sn sf) ∧ (0 ≤ (x5 + 1) ∧ (x5 + 1) < sn) ∧ pC 312 [.ref 169, iv ((sf (x5 + 1).toNat).toInt)] w1 (kI fun u4 w3 => Sh w3 ∧ ((gI w3 169 0) = u2 → (u2 ≠ 0 → pX 355 3566 [some (.ref pSC), some (.ref 0), some (.ref 169), some (.ref 180), some (.ref 181), some (iv x5), some (iv u2), some (iv u4), o8, o9] [] w3 Q) ∧ (u2 = 0 → ((lCmp (gL w3 180 0) (i2L u4)) = 0 → pX 355 3566 [some (.ref pSC), some (.ref 0), some (.ref 169), some (.ref 180), some (.ref 181), some (iv x5), some (iv u2), some (iv u4), o8, o9] [] w3 Q) ∧ ((lCmp (gL w3 180 0) (i2L u4)) ≠ 0 → Q (.inl (some (iv 0))) w3))) ∧ ((gI w3 169 0) ≠ u2 → Q (.inl (some (iv 0))) w3))) Q)) : pX 355 1766 [some (.ref pSC), some (.ref 0), some (.ref 169), some (.ref 180), some (.ref 181), some (iv x5), o6, o7, o8, o9] [] w Q :=
  w_f b355 d355_1766 rfl rfl rfl <| w_f b355 d355_1767 rfl rfl rfl <| w_f b355 d355_1768 rfl rfl rfl <| w_f b355 d355_1770 rfl rfl rfl <| w_f b355 d355_1771 rfl (pf_iadd x5 1) rfl <| w_scl b355 d355_1772 rfl h.1 (bdix (n := sn) h.2.1 hsn) h.2.1 <| w_f b355 d355_1773 rfl rfl rfl <| w_c b355 d355_1774 rfl (pcl_s4 (n := 3) rfl rfl rfl (by decide +kernel) rfl rfl) rfl _ (hK_X rfl (hK_I fun u2 w1 hbu2 hkw1 => w_f b355 d355_1777 rfl rfl rfl <| w_f b355 d355_1779 rfl rfl rfl <| w_f b355 d355_1780 rfl rfl rfl <| w_f b355 d355_1781 rfl rfl rfl <| w_f b355 d355_1783 rfl rfl rfl <| w_f b355 d355_1784 rfl (pf_iadd x5 1) rfl <| w_scl b355 d355_1785 rfl hkw1.2.1 (bdix (n := sn) hkw1.2.2.1 hsn) hkw1.2.2.1 <| w_c b355 d355_1786 rfl (pcl_v (n := 1) rfl rfl rfl (by decide +kernel) (sh_isOb hkw1.1 (tlt 169 rfl) tbC_169) rfl rfl) rfl _ (hK_I fun u4 w3 hbu4 hkw3 => w_f b355 d355_1789 rfl rfl rfl <| w_f b355 d355_1791 rfl rfl rfl <| w_cc b355 d355_1792 rfl (pcl_v (n := 0) rfl rfl rfl (by decide +kernel) (sh_isOb hkw3.1 (tlt 169 rfl) tbC_169) rfl rfl) rfl <| c217 hkw3.1 <| w_f b355 d355_1795 rfl rfl rfl <| w_iceq b355 d355_1797 rfl rfl (by decide +kernel) (bd_gI _ _ _) hbu2 (fun c5 => w_f b355 d355_1802 rfl rfl rfl <| w_ifne b355 d355_1804 rfl rfl (by decide +kernel) hbu2 (fun c6 => w_j b355 d355_1819 rfl (by decide +kernel) <| ((hkw3.2.1 c5).1 c6)) (fun c6 => w_f b355 d355_1807 rfl rfl rfl <| w_f b355 d355_1808 rfl rfl rfl <| w_lal b355 d355_1809 rfl hkw3.1 (tlt 180 rfl) tbC_180 (bdix (n := 1) ⟨by decide, by decide⟩ rfl) ⟨by decide, by decide⟩ <| w_f b355 d355_1810 rfl rfl rfl <| w_f b355 d355_1812 rfl rfl rfl <| w_f b355 d355_1813 rfl (pf_lcmp _ _) rfl <| w_ifeq b355 d355_1814 rfl rfl (by decide +kernel) (bd_toInt _) (fun c7 => w_j b355 d355_1819 rfl (by decide +kernel) <| (((hkw3.2.1 c5).2 c6).1 c7)) (fun c7 => w_f b355 d355_1817 rfl rfl rfl <| w_rz b355 d355_1818 r355 (by decide) (((hkw3.2.1 c5).2 c6).2 c7)))) (fun c5 => w_f b355 d355_1800 rfl rfl rfl <| w_rz b355 d355_1801 r355 (by decide) (hkw3.2.2 c5))) hkw1.2.2.2)) h.2.2
theorem v355_1822 {w : PW} {Q : PO → PW → Prop} {sn : Nat} {sf : Nat → Int32} {x5 : Int} {o6 : Option Value} {o7 : Option Value} {o8 : Option Value} {o9 : Option Value} (hs : Sh w) (hsn : Nat.blt sn 2147483648 = true) (hx5 : bd x5) (ho9 : pc2 o9 = false) (h : (Sc w sn sf) ∧ (0 ≤ (x5 + 1) ∧ (x5 + 1) < sn) ∧ (Sc w sn sf) ∧ (0 ≤ (x5 + 2) ∧ (x5 + 2) < sn) ∧ (Sc w sn sf) ∧ (0 ≤ (x5 + 3) ∧ (x5 + 3) < sn) ∧ pC 153 [.ref 0, iv ((sf (x5 + 1).toNat).toInt), iv ((sf (x5 + 2).toNat).toInt), iv ((sf (x5 + 3).toNat).toInt), .ref 180] w (kX (kI fun u2 w1 => Sh w1 ∧ (Sc w1 sn sf) ∧ (0 ≤ (x5 + 1) ∧ (x5 + 1) < sn) ∧ (Sc w1 sn sf) ∧ (0 ≤ (x5 + 2) ∧ (x5 + 2) < sn) ∧ (Sc w1 sn sf) ∧ (0 ≤ (x5 + 3) ∧ (x5 + 3) < sn) ∧ pC 314 [.ref 169, iv ((sf (x5 + 1).toNat).toInt), iv ((sf (x5 + 2).toNat).toInt), iv ((sf (x5 + 3).toNat).toInt)] w1 (kI fun u4 w3 => Sh w3 ∧ ((gI w3 169 0) = u2 → (u2 ≠ 0 → pX 355 3566 [some (.ref pSC), some (.ref 0), some (.ref 169), some (.ref 180), some (.ref 181), some (iv x5), some (iv u2), some (iv u4), o8, o9] [] w3 Q) ∧ (u2 = 0 → ((lCmp (gL w3 180 0) (i2L u4)) = 0 → pX 355 3566 [some (.ref pSC), some (.ref 0), some (.ref 169), some (.ref 180), some (.ref 181), some (iv x5), some (iv u2), some (iv u4), o8, o9] [] w3 Q) ∧ ((lCmp (gL w3 180 0) (i2L u4)) ≠ 0 → Q (.inl (some (iv 0))) w3))) ∧ ((gI w3 169 0) ≠ u2 → Q (.inl (some (iv 0))) w3))) Q)) : pX 355 1822 [some (.ref pSC), some (.ref 0), some (.ref 169), some (.ref 180), some (.ref 181), some (iv x5), o6, o7, o8, o9] [] w Q :=
  w_f b355 d355_1822 rfl rfl rfl <| w_f b355 d355_1823 rfl rfl rfl <| w_f b355 d355_1824 rfl rfl rfl <| w_f b355 d355_1826 rfl rfl rfl <| w_f b355 d355_1827 rfl (pf_iadd x5 1) rfl <| w_scl b355 d355_1828 rfl h.1 (bdix (n := sn) h.2.1 hsn) h.2.1 <| w_f b355 d355_1829 rfl rfl rfl <| w_f b355 d355_1830 rfl rfl rfl <| w_f b355 d355_1832 rfl rfl rfl <| w_f b355 d355_1833 rfl (pf_iadd x5 2) rfl <| w_scl b355 d355_1834 rfl h.2.2.1 (bdix (n := sn) h.2.2.2.1 hsn) h.2.2.2.1 <| w_f b355 d355_1835 rfl rfl rfl <| w_f b355 d355_1836 rfl rfl rfl <| w_f b355 d355_1838 rfl rfl rfl <| w_f b355 d355_1839 rfl (pf_iadd x5 3) rfl <| w_scl b355 d355_1840 rfl h.2.2.2.2.1 (bdix (n := sn) h.2.2.2.2.2.1 hsn) h.2.2.2.2.2.1 <| w_f b355 d355_1841 rfl rfl rfl <| w_c b355 d355_1842 rfl (pcl_s4 (n := 5) rfl rfl rfl (by decide +kernel) rfl rfl) rfl _ (hK_X rfl (hK_I fun u2 w1 hbu2 hkw1 => w_f b355 d355_1845 rfl rfl rfl <| w_f b355 d355_1847 rfl rfl rfl <| w_f b355 d355_1848 rfl rfl rfl <| w_f b355 d355_1849 rfl rfl rfl <| w_f b355 d355_1851 rfl rfl rfl <| w_f b355 d355_1852 rfl (pf_iadd x5 1) rfl <| w_scl b355 d355_1853 rfl hkw1.2.1 (bdix (n := sn) hkw1.2.2.1 hsn) hkw1.2.2.1 <| w_f b355 d355_1854 rfl rfl rfl <| w_f b355 d355_1855 rfl rfl rfl <| w_f b355 d355_1857 rfl rfl rfl <| w_f b355 d355_1858 rfl (pf_iadd x5 2) rfl <| w_scl b355 d355_1859 rfl hkw1.2.2.2.1 (bdix (n := sn) hkw1.2.2.2.2.1 hsn) hkw1.2.2.2.2.1 <| w_f b355 d355_1860 rfl rfl rfl <| w_f b355 d355_1861 rfl rfl rfl <| w_f b355 d355_1863 rfl rfl rfl <| w_f b355 d355_1864 rfl (pf_iadd x5 3) rfl <| w_scl b355 d355_1865 rfl hkw1.2.2.2.2.2.1 (bdix (n := sn) hkw1.2.2.2.2.2.2.1 hsn) hkw1.2.2.2.2.2.2.1 <| w_c b355 d355_1866 rfl (pcl_v (n := 3) rfl rfl rfl (by decide +kernel) (sh_isOb hkw1.1 (tlt 169 rfl) tbC_169) rfl rfl) rfl _ (hK_I fun u4 w3 hbu4 hkw3 => w_f b355 d355_1869 rfl rfl rfl <| w_f b355 d355_1871 rfl rfl rfl <| w_cc b355 d355_1872 rfl (pcl_v (n := 0) rfl rfl rfl (by decide +kernel) (sh_isOb hkw3.1 (tlt 169 rfl) tbC_169) rfl rfl) rfl <| c217 hkw3.1 <| w_f b355 d355_1875 rfl rfl rfl <| w_iceq b355 d355_1877 rfl rfl (by decide +kernel) (bd_gI _ _ _) hbu2 (fun c5 => w_f b355 d355_1882 rfl rfl rfl <| w_ifne b355 d355_1884 rfl rfl (by decide +kernel) hbu2 (fun c6 => w_j b355 d355_1899 rfl (by decide +kernel) <| ((hkw3.2.1 c5).1 c6)) (fun c6 => w_f b355 d355_1887 rfl rfl rfl <| w_f b355 d355_1888 rfl rfl rfl <| w_lal b355 d355_1889 rfl hkw3.1 (tlt 180 rfl) tbC_180 (bdix (n := 1) ⟨by decide, by decide⟩ rfl) ⟨by decide, by decide⟩ <| w_f b355 d355_1890 rfl rfl rfl <| w_f b355 d355_1892 rfl rfl rfl <| w_f b355 d355_1893 rfl (pf_lcmp _ _) rfl <| w_ifeq b355 d355_1894 rfl rfl (by decide +kernel) (bd_toInt _) (fun c7 => w_j b355 d355_1899 rfl (by decide +kernel) <| (((hkw3.2.1 c5).2 c6).1 c7)) (fun c7 => w_f b355 d355_1897 rfl rfl rfl <| w_rz b355 d355_1898 r355 (by decide) (((hkw3.2.1 c5).2 c6).2 c7)))) (fun c5 => w_f b355 d355_1880 rfl rfl rfl <| w_rz b355 d355_1881 r355 (by decide) (hkw3.2.2 c5))) hkw1.2.2.2.2.2.2.2)) h.2.2.2.2.2.2
theorem v355_1902 {w : PW} {Q : PO → PW → Prop} {sn : Nat} {sf : Nat → Int32} {x5 : Int} {o6 : Option Value} {o7 : Option Value} {o8 : Option Value} {o9 : Option Value} (hs : Sh w) (hsn : Nat.blt sn 2147483648 = true) (hx5 : bd x5) (ho9 : pc2 o9 = false) (h : (Sc w sn sf) ∧ (0 ≤ (x5 + 1) ∧ (x5 + 1) < sn) ∧ pC 156 [.ref 0, iv ((sf (x5 + 1).toNat).toInt), .ref 180] w (kX (kI fun u2 w1 => Sh w1 ∧ (Sc w1 sn sf) ∧ (0 ≤ (x5 + 1) ∧ (x5 + 1) < sn) ∧ pC 315 [.ref 169, iv ((sf (x5 + 1).toNat).toInt)] w1 (kI fun u4 w3 => Sh w3 ∧ ((gI w3 169 0) = u2 → (u2 ≠ 0 → pX 355 3566 [some (.ref pSC), some (.ref 0), some (.ref 169), some (.ref 180), some (.ref 181), some (iv x5), some (iv u2), some (iv u4), o8, o9] [] w3 Q) ∧ (u2 = 0 → ((lCmp (gL w3 180 0) (i2L u4)) = 0 → pX 355 3566 [some (.ref pSC), some (.ref 0), some (.ref 169), some (.ref 180), some (.ref 181), some (iv x5), some (iv u2), some (iv u4), o8, o9] [] w3 Q) ∧ ((lCmp (gL w3 180 0) (i2L u4)) ≠ 0 → Q (.inl (some (iv 0))) w3))) ∧ ((gI w3 169 0) ≠ u2 → Q (.inl (some (iv 0))) w3))) Q)) : pX 355 1902 [some (.ref pSC), some (.ref 0), some (.ref 169), some (.ref 180), some (.ref 181), some (iv x5), o6, o7, o8, o9] [] w Q :=
  w_f b355 d355_1902 rfl rfl rfl <| w_f b355 d355_1903 rfl rfl rfl <| w_f b355 d355_1904 rfl rfl rfl <| w_f b355 d355_1906 rfl rfl rfl <| w_f b355 d355_1907 rfl (pf_iadd x5 1) rfl <| w_scl b355 d355_1908 rfl h.1 (bdix (n := sn) h.2.1 hsn) h.2.1 <| w_f b355 d355_1909 rfl rfl rfl <| w_c b355 d355_1910 rfl (pcl_s4 (n := 3) rfl rfl rfl (by decide +kernel) rfl rfl) rfl _ (hK_X rfl (hK_I fun u2 w1 hbu2 hkw1 => w_f b355 d355_1913 rfl rfl rfl <| w_f b355 d355_1915 rfl rfl rfl <| w_f b355 d355_1916 rfl rfl rfl <| w_f b355 d355_1917 rfl rfl rfl <| w_f b355 d355_1919 rfl rfl rfl <| w_f b355 d355_1920 rfl (pf_iadd x5 1) rfl <| w_scl b355 d355_1921 rfl hkw1.2.1 (bdix (n := sn) hkw1.2.2.1 hsn) hkw1.2.2.1 <| w_c b355 d355_1922 rfl (pcl_v (n := 1) rfl rfl rfl (by decide +kernel) (sh_isOb hkw1.1 (tlt 169 rfl) tbC_169) rfl rfl) rfl _ (hK_I fun u4 w3 hbu4 hkw3 => w_f b355 d355_1925 rfl rfl rfl <| w_f b355 d355_1927 rfl rfl rfl <| w_cc b355 d355_1928 rfl (pcl_v (n := 0) rfl rfl rfl (by decide +kernel) (sh_isOb hkw3.1 (tlt 169 rfl) tbC_169) rfl rfl) rfl <| c217 hkw3.1 <| w_f b355 d355_1931 rfl rfl rfl <| w_iceq b355 d355_1933 rfl rfl (by decide +kernel) (bd_gI _ _ _) hbu2 (fun c5 => w_f b355 d355_1938 rfl rfl rfl <| w_ifne b355 d355_1940 rfl rfl (by decide +kernel) hbu2 (fun c6 => w_j b355 d355_1955 rfl (by decide +kernel) <| ((hkw3.2.1 c5).1 c6)) (fun c6 => w_f b355 d355_1943 rfl rfl rfl <| w_f b355 d355_1944 rfl rfl rfl <| w_lal b355 d355_1945 rfl hkw3.1 (tlt 180 rfl) tbC_180 (bdix (n := 1) ⟨by decide, by decide⟩ rfl) ⟨by decide, by decide⟩ <| w_f b355 d355_1946 rfl rfl rfl <| w_f b355 d355_1948 rfl rfl rfl <| w_f b355 d355_1949 rfl (pf_lcmp _ _) rfl <| w_ifeq b355 d355_1950 rfl rfl (by decide +kernel) (bd_toInt _) (fun c7 => w_j b355 d355_1955 rfl (by decide +kernel) <| (((hkw3.2.1 c5).2 c6).1 c7)) (fun c7 => w_f b355 d355_1953 rfl rfl rfl <| w_rz b355 d355_1954 r355 (by decide) (((hkw3.2.1 c5).2 c6).2 c7)))) (fun c5 => w_f b355 d355_1936 rfl rfl rfl <| w_rz b355 d355_1937 r355 (by decide) (hkw3.2.2 c5))) hkw1.2.2.2)) h.2.2
theorem v355_1958 {w : PW} {Q : PO → PW → Prop} {sn : Nat} {sf : Nat → Int32} {x5 : Int} {o6 : Option Value} {o7 : Option Value} {o8 : Option Value} {o9 : Option Value} (hs : Sh w) (hsn : Nat.blt sn 2147483648 = true) (hx5 : bd x5) (ho9 : pc2 o9 = false) (h : (Sc w sn sf) ∧ (0 ≤ (x5 + 1) ∧ (x5 + 1) < sn) ∧ (Sc w sn sf) ∧ (0 ≤ (x5 + 2) ∧ (x5 + 2) < sn) ∧ pC 159 [.ref 0, iv ((sf (x5 + 1).toNat).toInt), iv ((sf (x5 + 2).toNat).toInt), .ref 180] w (kX (kI fun u2 w1 => Sh w1 ∧ (Sc w1 sn sf) ∧ (0 ≤ (x5 + 1) ∧ (x5 + 1) < sn) ∧ (Sc w1 sn sf) ∧ (0 ≤ (x5 + 2) ∧ (x5 + 2) < sn) ∧ pC 316 [.ref 169, iv ((sf (x5 + 1).toNat).toInt), iv ((sf (x5 + 2).toNat).toInt)] w1 (kI fun u4 w3 => Sh w3 ∧ ((gI w3 169 0) = u2 → (u2 ≠ 0 → pX 355 3566 [some (.ref pSC), some (.ref 0), some (.ref 169), some (.ref 180), some (.ref 181), some (iv x5), some (iv u2), some (iv u4), o8, o9] [] w3 Q) ∧ (u2 = 0 → ((lCmp (gL w3 180 0) (i2L u4)) = 0 → pX 355 3566 [some (.ref pSC), some (.ref 0), some (.ref 169), some (.ref 180), some (.ref 181), some (iv x5), some (iv u2), some (iv u4), o8, o9] [] w3 Q) ∧ ((lCmp (gL w3 180 0) (i2L u4)) ≠ 0 → Q (.inl (some (iv 0))) w3))) ∧ ((gI w3 169 0) ≠ u2 → Q (.inl (some (iv 0))) w3))) Q)) : pX 355 1958 [some (.ref pSC), some (.ref 0), some (.ref 169), some (.ref 180), some (.ref 181), some (iv x5), o6, o7, o8, o9] [] w Q :=
  w_f b355 d355_1958 rfl rfl rfl <| w_f b355 d355_1959 rfl rfl rfl <| w_f b355 d355_1960 rfl rfl rfl <| w_f b355 d355_1962 rfl rfl rfl <| w_f b355 d355_1963 rfl (pf_iadd x5 1) rfl <| w_scl b355 d355_1964 rfl h.1 (bdix (n := sn) h.2.1 hsn) h.2.1 <| w_f b355 d355_1965 rfl rfl rfl <| w_f b355 d355_1966 rfl rfl rfl <| w_f b355 d355_1968 rfl rfl rfl <| w_f b355 d355_1969 rfl (pf_iadd x5 2) rfl <| w_scl b355 d355_1970 rfl h.2.2.1 (bdix (n := sn) h.2.2.2.1 hsn) h.2.2.2.1 <| w_f b355 d355_1971 rfl rfl rfl <| w_c b355 d355_1972 rfl (pcl_s4 (n := 4) rfl rfl rfl (by decide +kernel) rfl rfl) rfl _ (hK_X rfl (hK_I fun u2 w1 hbu2 hkw1 => w_f b355 d355_1975 rfl rfl rfl <| w_f b355 d355_1977 rfl rfl rfl <| w_f b355 d355_1978 rfl rfl rfl <| w_f b355 d355_1979 rfl rfl rfl <| w_f b355 d355_1981 rfl rfl rfl <| w_f b355 d355_1982 rfl (pf_iadd x5 1) rfl <| w_scl b355 d355_1983 rfl hkw1.2.1 (bdix (n := sn) hkw1.2.2.1 hsn) hkw1.2.2.1 <| w_f b355 d355_1984 rfl rfl rfl <| w_f b355 d355_1985 rfl rfl rfl <| w_f b355 d355_1987 rfl rfl rfl <| w_f b355 d355_1988 rfl (pf_iadd x5 2) rfl <| w_scl b355 d355_1989 rfl hkw1.2.2.2.1 (bdix (n := sn) hkw1.2.2.2.2.1 hsn) hkw1.2.2.2.2.1 <| w_c b355 d355_1990 rfl (pcl_v (n := 2) rfl rfl rfl (by decide +kernel) (sh_isOb hkw1.1 (tlt 169 rfl) tbC_169) rfl rfl) rfl _ (hK_I fun u4 w3 hbu4 hkw3 => w_f b355 d355_1993 rfl rfl rfl <| w_f b355 d355_1995 rfl rfl rfl <| w_cc b355 d355_1996 rfl (pcl_v (n := 0) rfl rfl rfl (by decide +kernel) (sh_isOb hkw3.1 (tlt 169 rfl) tbC_169) rfl rfl) rfl <| c217 hkw3.1 <| w_f b355 d355_1999 rfl rfl rfl <| w_iceq b355 d355_2001 rfl rfl (by decide +kernel) (bd_gI _ _ _) hbu2 (fun c5 => w_f b355 d355_2006 rfl rfl rfl <| w_ifne b355 d355_2008 rfl rfl (by decide +kernel) hbu2 (fun c6 => w_j b355 d355_2023 rfl (by decide +kernel) <| ((hkw3.2.1 c5).1 c6)) (fun c6 => w_f b355 d355_2011 rfl rfl rfl <| w_f b355 d355_2012 rfl rfl rfl <| w_lal b355 d355_2013 rfl hkw3.1 (tlt 180 rfl) tbC_180 (bdix (n := 1) ⟨by decide, by decide⟩ rfl) ⟨by decide, by decide⟩ <| w_f b355 d355_2014 rfl rfl rfl <| w_f b355 d355_2016 rfl rfl rfl <| w_f b355 d355_2017 rfl (pf_lcmp _ _) rfl <| w_ifeq b355 d355_2018 rfl rfl (by decide +kernel) (bd_toInt _) (fun c7 => w_j b355 d355_2023 rfl (by decide +kernel) <| (((hkw3.2.1 c5).2 c6).1 c7)) (fun c7 => w_f b355 d355_2021 rfl rfl rfl <| w_rz b355 d355_2022 r355 (by decide) (((hkw3.2.1 c5).2 c6).2 c7)))) (fun c5 => w_f b355 d355_2004 rfl rfl rfl <| w_rz b355 d355_2005 r355 (by decide) (hkw3.2.2 c5))) hkw1.2.2.2.2.2)) h.2.2.2.2
theorem v355_2026 {w : PW} {Q : PO → PW → Prop} {sn : Nat} {sf : Nat → Int32} {x5 : Int} {o6 : Option Value} {o7 : Option Value} {o8 : Option Value} {o9 : Option Value} (hs : Sh w) (hsn : Nat.blt sn 2147483648 = true) (hx5 : bd x5) (ho9 : pc2 o9 = false) (h : (Sc w sn sf) ∧ (0 ≤ (x5 + 1) ∧ (x5 + 1) < sn) ∧ pC 161 [.ref 0, iv ((sf (x5 + 1).toNat).toInt), .ref 180] w (kX (kI fun u2 w1 => Sh w1 ∧ (Sc w1 sn sf) ∧ (0 ≤ (x5 + 1) ∧ (x5 + 1) < sn) ∧ pC 321 [.ref 169, iv ((sf (x5 + 1).toNat).toInt)] w1 (kI fun u4 w3 => Sh w3 ∧ ((gI w3 169 0) = u2 → (u2 ≠ 0 → pX 355 3566 [some (.ref pSC), some (.ref 0), some (.ref 169), some (.ref 180), some (.ref 181), some (iv x5), some (iv u2), some (iv u4), o8, o9] [] w3 Q) ∧ (u2 = 0 → ((lCmp (gL w3 180 0) (i2L u4)) = 0 → pX 355 3566 [some (.ref pSC), some (.ref 0), some (.ref 169), some (.ref 180), some (.ref 181), some (iv x5), some (iv u2), some (iv u4), o8, o9] [] w3 Q) ∧ ((lCmp (gL w3 180 0) (i2L u4)) ≠ 0 → Q (.inl (some (iv 0))) w3))) ∧ ((gI w3 169 0) ≠ u2 → Q (.inl (some (iv 0))) w3))) Q)) : pX 355 2026 [some (.ref pSC), some (.ref 0), some (.ref 169), some (.ref 180), some (.ref 181), some (iv x5), o6, o7, o8, o9] [] w Q :=
  w_f b355 d355_2026 rfl rfl rfl <| w_f b355 d355_2027 rfl rfl rfl <| w_f b355 d355_2028 rfl rfl rfl <| w_f b355 d355_2030 rfl rfl rfl <| w_f b355 d355_2031 rfl (pf_iadd x5 1) rfl <| w_scl b355 d355_2032 rfl h.1 (bdix (n := sn) h.2.1 hsn) h.2.1 <| w_f b355 d355_2033 rfl rfl rfl <| w_c b355 d355_2034 rfl (pcl_s4 (n := 3) rfl rfl rfl (by decide +kernel) rfl rfl) rfl _ (hK_X rfl (hK_I fun u2 w1 hbu2 hkw1 => w_f b355 d355_2037 rfl rfl rfl <| w_f b355 d355_2039 rfl rfl rfl <| w_f b355 d355_2040 rfl rfl rfl <| w_f b355 d355_2041 rfl rfl rfl <| w_f b355 d355_2043 rfl rfl rfl <| w_f b355 d355_2044 rfl (pf_iadd x5 1) rfl <| w_scl b355 d355_2045 rfl hkw1.2.1 (bdix (n := sn) hkw1.2.2.1 hsn) hkw1.2.2.1 <| w_c b355 d355_2046 rfl (pcl_v (n := 1) rfl rfl rfl (by decide +kernel) (sh_isOb hkw1.1 (tlt 169 rfl) tbC_169) rfl rfl) rfl _ (hK_I fun u4 w3 hbu4 hkw3 => w_f b355 d355_2049 rfl rfl rfl <| w_f b355 d355_2051 rfl rfl rfl <| w_cc b355 d355_2052 rfl (pcl_v (n := 0) rfl rfl rfl (by decide +kernel) (sh_isOb hkw3.1 (tlt 169 rfl) tbC_169) rfl rfl) rfl <| c217 hkw3.1 <| w_f b355 d355_2055 rfl rfl rfl <| w_iceq b355 d355_2057 rfl rfl (by decide +kernel) (bd_gI _ _ _) hbu2 (fun c5 => w_f b355 d355_2062 rfl rfl rfl <| w_ifne b355 d355_2064 rfl rfl (by decide +kernel) hbu2 (fun c6 => w_j b355 d355_2079 rfl (by decide +kernel) <| ((hkw3.2.1 c5).1 c6)) (fun c6 => w_f b355 d355_2067 rfl rfl rfl <| w_f b355 d355_2068 rfl rfl rfl <| w_lal b355 d355_2069 rfl hkw3.1 (tlt 180 rfl) tbC_180 (bdix (n := 1) ⟨by decide, by decide⟩ rfl) ⟨by decide, by decide⟩ <| w_f b355 d355_2070 rfl rfl rfl <| w_f b355 d355_2072 rfl rfl rfl <| w_f b355 d355_2073 rfl (pf_lcmp _ _) rfl <| w_ifeq b355 d355_2074 rfl rfl (by decide +kernel) (bd_toInt _) (fun c7 => w_j b355 d355_2079 rfl (by decide +kernel) <| (((hkw3.2.1 c5).2 c6).1 c7)) (fun c7 => w_f b355 d355_2077 rfl rfl rfl <| w_rz b355 d355_2078 r355 (by decide) (((hkw3.2.1 c5).2 c6).2 c7)))) (fun c5 => w_f b355 d355_2060 rfl rfl rfl <| w_rz b355 d355_2061 r355 (by decide) (hkw3.2.2 c5))) hkw1.2.2.2)) h.2.2
theorem v355_2082 {w : PW} {Q : PO → PW → Prop} {sn : Nat} {sf : Nat → Int32} {x5 : Int} {o6 : Option Value} {o7 : Option Value} {o8 : Option Value} {o9 : Option Value} (hs : Sh w) (hsn : Nat.blt sn 2147483648 = true) (hx5 : bd x5) (ho9 : pc2 o9 = false) (h : (Sc w sn sf) ∧ (0 ≤ (x5 + 1) ∧ (x5 + 1) < sn) ∧ pC 163 [.ref 0, iv ((sf (x5 + 1).toNat).toInt), .ref 180] w (kX (kI fun u2 w1 => Sh w1 ∧ (Sc w1 sn sf) ∧ (0 ≤ (x5 + 1) ∧ (x5 + 1) < sn) ∧ pC 322 [.ref 169, iv ((sf (x5 + 1).toNat).toInt)] w1 (kI fun u4 w3 => Sh w3 ∧ ((gI w3 169 0) = u2 → (u2 ≠ 0 → pX 355 3566 [some (.ref pSC), some (.ref 0), some (.ref 169), some (.ref 180), some (.ref 181), some (iv x5), some (iv u2), some (iv u4), o8, o9] [] w3 Q) ∧ (u2 = 0 → ((lCmp (gL w3 180 0) (i2L u4)) = 0 → pX 355 3566 [some (.ref pSC), some (.ref 0), some (.ref 169), some (.ref 180), some (.ref 181), some (iv x5), some (iv u2), some (iv u4), o8, o9] [] w3 Q) ∧ ((lCmp (gL w3 180 0) (i2L u4)) ≠ 0 → Q (.inl (some (iv 0))) w3))) ∧ ((gI w3 169 0) ≠ u2 → Q (.inl (some (iv 0))) w3))) Q)) : pX 355 2082 [some (.ref pSC), some (.ref 0), some (.ref 169), some (.ref 180), some (.ref 181), some (iv x5), o6, o7, o8, o9] [] w Q :=
  w_f b355 d355_2082 rfl rfl rfl <| w_f b355 d355_2083 rfl rfl rfl <| w_f b355 d355_2084 rfl rfl rfl <| w_f b355 d355_2086 rfl rfl rfl <| w_f b355 d355_2087 rfl (pf_iadd x5 1) rfl <| w_scl b355 d355_2088 rfl h.1 (bdix (n := sn) h.2.1 hsn) h.2.1 <| w_f b355 d355_2089 rfl rfl rfl <| w_c b355 d355_2090 rfl (pcl_s4 (n := 3) rfl rfl rfl (by decide +kernel) rfl rfl) rfl _ (hK_X rfl (hK_I fun u2 w1 hbu2 hkw1 => w_f b355 d355_2093 rfl rfl rfl <| w_f b355 d355_2095 rfl rfl rfl <| w_f b355 d355_2096 rfl rfl rfl <| w_f b355 d355_2097 rfl rfl rfl <| w_f b355 d355_2099 rfl rfl rfl <| w_f b355 d355_2100 rfl (pf_iadd x5 1) rfl <| w_scl b355 d355_2101 rfl hkw1.2.1 (bdix (n := sn) hkw1.2.2.1 hsn) hkw1.2.2.1 <| w_c b355 d355_2102 rfl (pcl_v (n := 1) rfl rfl rfl (by decide +kernel) (sh_isOb hkw1.1 (tlt 169 rfl) tbC_169) rfl rfl) rfl _ (hK_I fun u4 w3 hbu4 hkw3 => w_f b355 d355_2105 rfl rfl rfl <| w_f b355 d355_2107 rfl rfl rfl <| w_cc b355 d355_2108 rfl (pcl_v (n := 0) rfl rfl rfl (by decide +kernel) (sh_isOb hkw3.1 (tlt 169 rfl) tbC_169) rfl rfl) rfl <| c217 hkw3.1 <| w_f b355 d355_2111 rfl rfl rfl <| w_iceq b355 d355_2113 rfl rfl (by decide +kernel) (bd_gI _ _ _) hbu2 (fun c5 => w_f b355 d355_2118 rfl rfl rfl <| w_ifne b355 d355_2120 rfl rfl (by decide +kernel) hbu2 (fun c6 => w_j b355 d355_2135 rfl (by decide +kernel) <| ((hkw3.2.1 c5).1 c6)) (fun c6 => w_f b355 d355_2123 rfl rfl rfl <| w_f b355 d355_2124 rfl rfl rfl <| w_lal b355 d355_2125 rfl hkw3.1 (tlt 180 rfl) tbC_180 (bdix (n := 1) ⟨by decide, by decide⟩ rfl) ⟨by decide, by decide⟩ <| w_f b355 d355_2126 rfl rfl rfl <| w_f b355 d355_2128 rfl rfl rfl <| w_f b355 d355_2129 rfl (pf_lcmp _ _) rfl <| w_ifeq b355 d355_2130 rfl rfl (by decide +kernel) (bd_toInt _) (fun c7 => w_j b355 d355_2135 rfl (by decide +kernel) <| (((hkw3.2.1 c5).2 c6).1 c7)) (fun c7 => w_f b355 d355_2133 rfl rfl rfl <| w_rz b355 d355_2134 r355 (by decide) (((hkw3.2.1 c5).2 c6).2 c7)))) (fun c5 => w_f b355 d355_2116 rfl rfl rfl <| w_rz b355 d355_2117 r355 (by decide) (hkw3.2.2 c5))) hkw1.2.2.2)) h.2.2
theorem v355_2138 {w : PW} {Q : PO → PW → Prop} {sn : Nat} {sf : Nat → Int32} {x5 : Int} {o6 : Option Value} {o7 : Option Value} {o8 : Option Value} {o9 : Option Value} (hs : Sh w) (hsn : Nat.blt sn 2147483648 = true) (hx5 : bd x5) (ho9 : pc2 o9 = false) (h : pC 49 [.ref 0] w (kI fun u2 w1 => Sh w1 ∧ pC 323 [.ref 169] w1 (kI fun u4 w3 => Sh w3 ∧ (u2 = u4 → pX 355 3566 [some (.ref pSC), some (.ref 0), some (.ref 169), some (.ref 180), some (.ref 181), some (iv x5), o6, o7, o8, o9] [] w3 Q) ∧ (u2 ≠ u4 → Q (.inl (some (iv 0))) w3)))) : pX 355 2138 [some (.ref pSC), some (.ref 0), some (.ref 169), some (.ref 180), some (.ref 181), some (iv x5), o6, o7, o8, o9] [] w Q :=
  w_f b355 d355_2138 rfl rfl rfl <| w_c b355 d355_2139 rfl (pcl_v (n := 0) rfl rfl rfl (by decide +kernel) (sh_isOb hs (tlt 0 rfl) tbC_0) rfl rfl) rfl _ (hK_I fun u2 w1 hbu2 hkw1 => w_f b355 d355_2142 rfl rfl rfl <| w_c b355 d355_2143 rfl (pcl_v (n := 0) rfl rfl rfl (by decide +kernel) (sh_isOb hkw1.1 (tlt 169 rfl) tbC_169) rfl rfl) rfl _ (hK_I fun u4 w3 hbu4 hkw3 => w_iceq b355 d355_2146 rfl rfl (by decide +kernel) hbu2 hbu4 (fun c5 => (hkw3.2.1 c5)) (fun c5 => w_f b355 d355_2149 rfl rfl rfl <| w_rz b355 d355_2150 r355 (by decide) (hkw3.2.2 c5))) hkw1.2) h
theorem v355_2151 {w : PW} {Q : PO → PW → Prop} {sn : Nat} {sf : Nat → Int32} {x5 : Int} {o6 : Option Value} {o7 : Option Value} {o8 : Option Value} {o9 : Option Value} (hs : Sh w) (hsn : Nat.blt sn 2147483648 = true) (hx5 : bd x5) (ho9 : pc2 o9 = false) (h : pC 50 [.ref 0] w (kI fun u2 w1 => Sh w1 ∧ pC 324 [.ref 169] w1 (kI fun u4 w3 => Sh w3 ∧ (u2 = u4 → pX 355 3566 [some (.ref pSC), some (.ref 0), some (.ref 169), some (.ref 180), some (.ref 181), some (iv x5), o6, o7, o8, o9] [] w3 Q) ∧ (u2 ≠ u4 → Q (.inl (some (iv 0))) w3)))) : pX 355 2151 [some (.ref pSC), some (.ref 0), some (.ref 169), some (.ref 180), some (.ref 181), some (iv x5), o6, o7, o8, o9] [] w Q :=
  w_f b355 d355_2151 rfl rfl rfl <| w_c b355 d355_2152 rfl (pcl_v (n := 0) rfl rfl rfl (by decide +kernel) (sh_isOb hs (tlt 0 rfl) tbC_0) rfl rfl) rfl _ (hK_I fun u2 w1 hbu2 hkw1 => w_f b355 d355_2155 rfl rfl rfl <| w_c b355 d355_2156 rfl (pcl_v (n := 0) rfl rfl rfl (by decide +kernel) (sh_isOb hkw1.1 (tlt 169 rfl) tbC_169) rfl rfl) rfl _ (hK_I fun u4 w3 hbu4 hkw3 => w_iceq b355 d355_2159 rfl rfl (by decide +kernel) hbu2 hbu4 (fun c5 => (hkw3.2.1 c5)) (fun c5 => w_f b355 d355_2162 rfl rfl rfl <| w_rz b355 d355_2163 r355 (by decide) (hkw3.2.2 c5))) hkw1.2) h
theorem v355_2164 {w : PW} {Q : PO → PW → Prop} {sn : Nat} {sf : Nat → Int32} {x5 : Int} {o6 : Option Value} {o7 : Option Value} {o8 : Option Value} {o9 : Option Value} (hs : Sh w) (hsn : Nat.blt sn 2147483648 = true) (hx5 : bd x5) (ho9 : pc2 o9 = false) (h : pC 51 [.ref 0] w (kI fun u2 w1 => Sh w1 ∧ pC 325 [.ref 169] w1 (kI fun u4 w3 => Sh w3 ∧ (u2 = u4 → pX 355 3566 [some (.ref pSC), some (.ref 0), some (.ref 169), some (.ref 180), some (.ref 181), some (iv x5), o6, o7, o8, o9] [] w3 Q) ∧ (u2 ≠ u4 → Q (.inl (some (iv 0))) w3)))) : pX 355 2164 [some (.ref pSC), some (.ref 0), some (.ref 169), some (.ref 180), some (.ref 181), some (iv x5), o6, o7, o8, o9] [] w Q :=
  w_f b355 d355_2164 rfl rfl rfl <| w_c b355 d355_2165 rfl (pcl_v (n := 0) rfl rfl rfl (by decide +kernel) (sh_isOb hs (tlt 0 rfl) tbC_0) rfl rfl) rfl _ (hK_I fun u2 w1 hbu2 hkw1 => w_f b355 d355_2168 rfl rfl rfl <| w_c b355 d355_2169 rfl (pcl_v (n := 0) rfl rfl rfl (by decide +kernel) (sh_isOb hkw1.1 (tlt 169 rfl) tbC_169) rfl rfl) rfl _ (hK_I fun u4 w3 hbu4 hkw3 => w_iceq b355 d355_2172 rfl rfl (by decide +kernel) hbu2 hbu4 (fun c5 => (hkw3.2.1 c5)) (fun c5 => w_f b355 d355_2175 rfl rfl rfl <| w_rz b355 d355_2176 r355 (by decide) (hkw3.2.2 c5))) hkw1.2) h
theorem v355_2177 {w : PW} {Q : PO → PW → Prop} {sn : Nat} {sf : Nat → Int32} {x5 : Int} {o6 : Option Value} {o7 : Option Value} {o8 : Option Value} {o9 : Option Value} (hs : Sh w) (hsn : Nat.blt sn 2147483648 = true) (hx5 : bd x5) (ho9 : pc2 o9 = false) (h : (Sc w sn sf) ∧ (0 ≤ (x5 + 1) ∧ (x5 + 1) < sn) ∧ (Sc w sn sf) ∧ (0 ≤ (x5 + 2) ∧ (x5 + 2) < sn) ∧ (Sc w sn sf) ∧ (0 ≤ (x5 + 3) ∧ (x5 + 3) < sn) ∧ pC 166 [.ref 0, iv ((sf (x5 + 1).toNat).toInt), iv ((sf (x5 + 2).toNat).toInt), iv ((sf (x5 + 3).toNat).toInt), .ref 180] w (kX (kI fun u2 w1 => Sh w1 ∧ (Sc w1 sn sf) ∧ (0 ≤ (x5 + 1) ∧ (x5 + 1) < sn) ∧ (Sc w1 sn sf) ∧ (0 ≤ (x5 + 2) ∧ (x5 + 2) < sn) ∧ (Sc w1 sn sf) ∧ (0 ≤ (x5 + 3) ∧ (x5 + 3) < sn) ∧ pC 327 [.ref 169, iv ((sf (x5 + 1).toNat).toInt), iv ((sf (x5 + 2).toNat).toInt), iv ((sf (x5 + 3).toNat).toInt)] w1 (kI fun u4 w3 => Sh w3 ∧ ((gI w3 169 0) = u2 → (u2 ≠ 0 → pX 355 3566 [some (.ref pSC), some (.ref 0), some (.ref 169), some (.ref 180), some (.ref 181), some (iv x5), some (iv u2), some (iv u4), o8, o9] [] w3 Q) ∧ (u2 = 0 → ((lCmp (gL w3 180 0) (i2L u4)) = 0 → pX 355 3566 [some (.ref pSC), some (.ref 0), some (.ref 169), some (.ref 180), some (.ref 181), some (iv x5), some (iv u2), some (iv u4), o8, o9] [] w3 Q) ∧ ((lCmp (gL w3 180 0) (i2L u4)) ≠ 0 → Q (.inl (some (iv 0))) w3))) ∧ ((gI w3 169 0) ≠ u2 → Q (.inl (some (iv 0))) w3))) Q)) : pX 355 2177 [some (.ref pSC), some (.ref 0), some (.ref 169), some (.ref 180), some (.ref 181), some (iv x5), o6, o7, o8, o9] [] w Q :=
  w_f b355 d355_2177 rfl rfl rfl <| w_f b355 d355_2178 rfl rfl rfl <| w_f b355 d355_2179 rfl rfl rfl <| w_f b355 d355_2181 rfl rfl rfl <| w_f b355 d355_2182 rfl (pf_iadd x5 1) rfl <| w_scl b355 d355_2183 rfl h.1 (bdix (n := sn) h.2.1 hsn) h.2.1 <| w_f b355 d355_2184 rfl rfl rfl <| w_f b355 d355_2185 rfl rfl rfl <| w_f b355 d355_2187 rfl rfl rfl <| w_f b355 d355_2188 rfl (pf_iadd x5 2) rfl <| w_scl b355 d355_2189 rfl h.2.2.1 (bdix (n := sn) h.2.2.2.1 hsn) h.2.2.2.1 <| w_f b355 d355_2190 rfl rfl rfl <| w_f b355 d355_2191 rfl rfl rfl <| w_f b355 d355_2193 rfl rfl rfl <| w_f b355 d355_2194 rfl (pf_iadd x5 3) rfl <| w_scl b355 d355_2195 rfl h.2.2.2.2.1 (bdix (n := sn) h.2.2.2.2.2.1 hsn) h.2.2.2.2.2.1 <| w_f b355 d355_2196 rfl rfl rfl <| w_c b355 d355_2197 rfl (pcl_s4 (n := 5) rfl rfl rfl (by decide +kernel) rfl rfl) rfl _ (hK_X rfl (hK_I fun u2 w1 hbu2 hkw1 => w_f b355 d355_2200 rfl rfl rfl <| w_f b355 d355_2202 rfl rfl rfl <| w_f b355 d355_2203 rfl rfl rfl <| w_f b355 d355_2204 rfl rfl rfl <| w_f b355 d355_2206 rfl rfl rfl <| w_f b355 d355_2207 rfl (pf_iadd x5 1) rfl <| w_scl b355 d355_2208 rfl hkw1.2.1 (bdix (n := sn) hkw1.2.2.1 hsn) hkw1.2.2.1 <| w_f b355 d355_2209 rfl rfl rfl <| w_f b355 d355_2210 rfl rfl rfl <| w_f b355 d355_2212 rfl rfl rfl <| w_f b355 d355_2213 rfl (pf_iadd x5 2) rfl <| w_scl b355 d355_2214 rfl hkw1.2.2.2.1 (bdix (n := sn) hkw1.2.2.2.2.1 hsn) hkw1.2.2.2.2.1 <| w_f b355 d355_2215 rfl rfl rfl <| w_f b355 d355_2216 rfl rfl rfl <| w_f b355 d355_2218 rfl rfl rfl <| w_f b355 d355_2219 rfl (pf_iadd x5 3) rfl <| w_scl b355 d355_2220 rfl hkw1.2.2.2.2.2.1 (bdix (n := sn) hkw1.2.2.2.2.2.2.1 hsn) hkw1.2.2.2.2.2.2.1 <| w_c b355 d355_2221 rfl (pcl_v (n := 3) rfl rfl rfl (by decide +kernel) (sh_isOb hkw1.1 (tlt 169 rfl) tbC_169) rfl rfl) rfl _ (hK_I fun u4 w3 hbu4 hkw3 => w_f b355 d355_2224 rfl rfl rfl <| w_f b355 d355_2226 rfl rfl rfl <| w_cc b355 d355_2227 rfl (pcl_v (n := 0) rfl rfl rfl (by decide +kernel) (sh_isOb hkw3.1 (tlt 169 rfl) tbC_169) rfl rfl) rfl <| c217 hkw3.1 <| w_f b355 d355_2230 rfl rfl rfl <| w_iceq b355 d355_2232 rfl rfl (by decide +kernel) (bd_gI _ _ _) hbu2 (fun c5 => w_f b355 d355_2237 rfl rfl rfl <| w_ifne b355 d355_2239 rfl rfl (by decide +kernel) hbu2 (fun c6 => w_j b355 d355_2254 rfl (by decide +kernel) <| ((hkw3.2.1 c5).1 c6)) (fun c6 => w_f b355 d355_2242 rfl rfl rfl <| w_f b355 d355_2243 rfl rfl rfl <| w_lal b355 d355_2244 rfl hkw3.1 (tlt 180 rfl) tbC_180 (bdix (n := 1) ⟨by decide, by decide⟩ rfl) ⟨by decide, by decide⟩ <| w_f b355 d355_2245 rfl rfl rfl <| w_f b355 d355_2247 rfl rfl rfl <| w_f b355 d355_2248 rfl (pf_lcmp _ _) rfl <| w_ifeq b355 d355_2249 rfl rfl (by decide +kernel) (bd_toInt _) (fun c7 => w_j b355 d355_2254 rfl (by decide +kernel) <| (((hkw3.2.1 c5).2 c6).1 c7)) (fun c7 => w_f b355 d355_2252 rfl rfl rfl <| w_rz b355 d355_2253 r355 (by decide) (((hkw3.2.1 c5).2 c6).2 c7)))) (fun c5 => w_f b355 d355_2235 rfl rfl rfl <| w_rz b355 d355_2236 r355 (by decide) (hkw3.2.2 c5))) hkw1.2.2.2.2.2.2.2)) h.2.2.2.2.2.2
theorem v355_2257 {w : PW} {Q : PO → PW → Prop} {sn : Nat} {sf : Nat → Int32} {x5 : Int} {o6 : Option Value} {o7 : Option Value} {o8 : Option Value} {o9 : Option Value} (hs : Sh w) (hsn : Nat.blt sn 2147483648 = true) (hx5 : bd x5) (ho9 : pc2 o9 = false) (h : (Sc w sn sf) ∧ (0 ≤ (x5 + 1) ∧ (x5 + 1) < sn) ∧ pC 169 [.ref 0, iv ((sf (x5 + 1).toNat).toInt), .ref 180] w (kX (kI fun u2 w1 => Sh w1 ∧ (Sc w1 sn sf) ∧ (0 ≤ (x5 + 1) ∧ (x5 + 1) < sn) ∧ pC 328 [.ref 169, iv ((sf (x5 + 1).toNat).toInt)] w1 (kI fun u4 w3 => Sh w3 ∧ ((gI w3 169 0) = u2 → (u2 ≠ 0 → pX 355 3566 [some (.ref pSC), some (.ref 0), some (.ref 169), some (.ref 180), some (.ref 181), some (iv x5), some (iv u2), some (iv u4), o8, o9] [] w3 Q) ∧ (u2 = 0 → ((lCmp (gL w3 180 0) (i2L u4)) = 0 → pX 355 3566 [some (.ref pSC), some (.ref 0), some (.ref 169), some (.ref 180), some (.ref 181), some (iv x5), some (iv u2), some (iv u4), o8, o9] [] w3 Q) ∧ ((lCmp (gL w3 180 0) (i2L u4)) ≠ 0 → Q (.inl (some (iv 0))) w3))) ∧ ((gI w3 169 0) ≠ u2 → Q (.inl (some (iv 0))) w3))) Q)) : pX 355 2257 [some (.ref pSC), some (.ref 0), some (.ref 169), some (.ref 180), some (.ref 181), some (iv x5), o6, o7, o8, o9] [] w Q :=
  w_f b355 d355_2257 rfl rfl rfl <| w_f b355 d355_2258 rfl rfl rfl <| w_f b355 d355_2259 rfl rfl rfl <| w_f b355 d355_2261 rfl rfl rfl <| w_f b355 d355_2262 rfl (pf_iadd x5 1) rfl <| w_scl b355 d355_2263 rfl h.1 (bdix (n := sn) h.2.1 hsn) h.2.1 <| w_f b355 d355_2264 rfl rfl rfl <| w_c b355 d355_2265 rfl (pcl_s4 (n := 3) rfl rfl rfl (by decide +kernel) rfl rfl) rfl _ (hK_X rfl (hK_I fun u2 w1 hbu2 hkw1 => w_f b355 d355_2268 rfl rfl rfl <| w_f b355 d355_2270 rfl rfl rfl <| w_f b355 d355_2271 rfl rfl rfl <| w_f b355 d355_2272 rfl rfl rfl <| w_f b355 d355_2274 rfl rfl rfl <| w_f b355 d355_2275 rfl (pf_iadd x5 1) rfl <| w_scl b355 d355_2276 rfl hkw1.2.1 (bdix (n := sn) hkw1.2.2.1 hsn) hkw1.2.2.1 <| w_c b355 d355_2277 rfl (pcl_v (n := 1) rfl rfl rfl (by decide +kernel) (sh_isOb hkw1.1 (tlt 169 rfl) tbC_169) rfl rfl) rfl _ (hK_I fun u4 w3 hbu4 hkw3 => w_f b355 d355_2280 rfl rfl rfl <| w_f b355 d355_2282 rfl rfl rfl <| w_cc b355 d355_2283 rfl (pcl_v (n := 0) rfl rfl rfl (by decide +kernel) (sh_isOb hkw3.1 (tlt 169 rfl) tbC_169) rfl rfl) rfl <| c217 hkw3.1 <| w_f b355 d355_2286 rfl rfl rfl <| w_iceq b355 d355_2288 rfl rfl (by decide +kernel) (bd_gI _ _ _) hbu2 (fun c5 => w_f b355 d355_2293 rfl rfl rfl <| w_ifne b355 d355_2295 rfl rfl (by decide +kernel) hbu2 (fun c6 => w_j b355 d355_2310 rfl (by decide +kernel) <| ((hkw3.2.1 c5).1 c6)) (fun c6 => w_f b355 d355_2298 rfl rfl rfl <| w_f b355 d355_2299 rfl rfl rfl <| w_lal b355 d355_2300 rfl hkw3.1 (tlt 180 rfl) tbC_180 (bdix (n := 1) ⟨by decide, by decide⟩ rfl) ⟨by decide, by decide⟩ <| w_f b355 d355_2301 rfl rfl rfl <| w_f b355 d355_2303 rfl rfl rfl <| w_f b355 d355_2304 rfl (pf_lcmp _ _) rfl <| w_ifeq b355 d355_2305 rfl rfl (by decide +kernel) (bd_toInt _) (fun c7 => w_j b355 d355_2310 rfl (by decide +kernel) <| (((hkw3.2.1 c5).2 c6).1 c7)) (fun c7 => w_f b355 d355_2308 rfl rfl rfl <| w_rz b355 d355_2309 r355 (by decide) (((hkw3.2.1 c5).2 c6).2 c7)))) (fun c5 => w_f b355 d355_2291 rfl rfl rfl <| w_rz b355 d355_2292 r355 (by decide) (hkw3.2.2 c5))) hkw1.2.2.2)) h.2.2
theorem v355_2313 {w : PW} {Q : PO → PW → Prop} {sn : Nat} {sf : Nat → Int32} {x5 : Int} {o6 : Option Value} {o7 : Option Value} {o8 : Option Value} {o9 : Option Value} (hs : Sh w) (hsn : Nat.blt sn 2147483648 = true) (hx5 : bd x5) (ho9 : pc2 o9 = false) (h : (Sc w sn sf) ∧ (0 ≤ (x5 + 1) ∧ (x5 + 1) < sn) ∧ (Sc w sn sf) ∧ (0 ≤ (x5 + 2) ∧ (x5 + 2) < sn) ∧ pC 171 [.ref 0, iv ((sf (x5 + 1).toNat).toInt), iv ((sf (x5 + 2).toNat).toInt), .ref 180] w (kX (kI fun u2 w1 => Sh w1 ∧ (Sc w1 sn sf) ∧ (0 ≤ (x5 + 1) ∧ (x5 + 1) < sn) ∧ (Sc w1 sn sf) ∧ (0 ≤ (x5 + 2) ∧ (x5 + 2) < sn) ∧ pC 330 [.ref 169, iv ((sf (x5 + 1).toNat).toInt), iv ((sf (x5 + 2).toNat).toInt)] w1 (kI fun u4 w3 => Sh w3 ∧ ((gI w3 169 0) = u2 → (u2 ≠ 0 → pX 355 3566 [some (.ref pSC), some (.ref 0), some (.ref 169), some (.ref 180), some (.ref 181), some (iv x5), some (iv u2), some (iv u4), o8, o9] [] w3 Q) ∧ (u2 = 0 → ((lCmp (gL w3 180 0) (i2L u4)) = 0 → pX 355 3566 [some (.ref pSC), some (.ref 0), some (.ref 169), some (.ref 180), some (.ref 181), some (iv x5), some (iv u2), some (iv u4), o8, o9] [] w3 Q) ∧ ((lCmp (gL w3 180 0) (i2L u4)) ≠ 0 → Q (.inl (some (iv 0))) w3))) ∧ ((gI w3 169 0) ≠ u2 → Q (.inl (some (iv 0))) w3))) Q)) : pX 355 2313 [some (.ref pSC), some (.ref 0), some (.ref 169), some (.ref 180), some (.ref 181), some (iv x5), o6, o7, o8, o9] [] w Q :=
  w_f b355 d355_2313 rfl rfl rfl <| w_f b355 d355_2314 rfl rfl rfl <| w_f b355 d355_2315 rfl rfl rfl <| w_f b355 d355_2317 rfl rfl rfl <| w_f b355 d355_2318 rfl (pf_iadd x5 1) rfl <| w_scl b355 d355_2319 rfl h.1 (bdix (n := sn) h.2.1 hsn) h.2.1 <| w_f b355 d355_2320 rfl rfl rfl <| w_f b355 d355_2321 rfl rfl rfl <| w_f b355 d355_2323 rfl rfl rfl <| w_f b355 d355_2324 rfl (pf_iadd x5 2) rfl <| w_scl b355 d355_2325 rfl h.2.2.1 (bdix (n := sn) h.2.2.2.1 hsn) h.2.2.2.1 <| w_f b355 d355_2326 rfl rfl rfl <| w_c b355 d355_2327 rfl (pcl_s4 (n := 4) rfl rfl rfl (by decide +kernel) rfl rfl) rfl _ (hK_X rfl (hK_I fun u2 w1 hbu2 hkw1 => w_f b355 d355_2330 rfl rfl rfl <| w_f b355 d355_2332 rfl rfl rfl <| w_f b355 d355_2333 rfl rfl rfl <| w_f b355 d355_2334 rfl rfl rfl <| w_f b355 d355_2336 rfl rfl rfl <| w_f b355 d355_2337 rfl (pf_iadd x5 1) rfl <| w_scl b355 d355_2338 rfl hkw1.2.1 (bdix (n := sn) hkw1.2.2.1 hsn) hkw1.2.2.1 <| w_f b355 d355_2339 rfl rfl rfl <| w_f b355 d355_2340 rfl rfl rfl <| w_f b355 d355_2342 rfl rfl rfl <| w_f b355 d355_2343 rfl (pf_iadd x5 2) rfl <| w_scl b355 d355_2344 rfl hkw1.2.2.2.1 (bdix (n := sn) hkw1.2.2.2.2.1 hsn) hkw1.2.2.2.2.1 <| w_c b355 d355_2345 rfl (pcl_v (n := 2) rfl rfl rfl (by decide +kernel) (sh_isOb hkw1.1 (tlt 169 rfl) tbC_169) rfl rfl) rfl _ (hK_I fun u4 w3 hbu4 hkw3 => w_f b355 d355_2348 rfl rfl rfl <| w_f b355 d355_2350 rfl rfl rfl <| w_cc b355 d355_2351 rfl (pcl_v (n := 0) rfl rfl rfl (by decide +kernel) (sh_isOb hkw3.1 (tlt 169 rfl) tbC_169) rfl rfl) rfl <| c217 hkw3.1 <| w_f b355 d355_2354 rfl rfl rfl <| w_iceq b355 d355_2356 rfl rfl (by decide +kernel) (bd_gI _ _ _) hbu2 (fun c5 => w_f b355 d355_2361 rfl rfl rfl <| w_ifne b355 d355_2363 rfl rfl (by decide +kernel) hbu2 (fun c6 => w_j b355 d355_2378 rfl (by decide +kernel) <| ((hkw3.2.1 c5).1 c6)) (fun c6 => w_f b355 d355_2366 rfl rfl rfl <| w_f b355 d355_2367 rfl rfl rfl <| w_lal b355 d355_2368 rfl hkw3.1 (tlt 180 rfl) tbC_180 (bdix (n := 1) ⟨by decide, by decide⟩ rfl) ⟨by decide, by decide⟩ <| w_f b355 d355_2369 rfl rfl rfl <| w_f b355 d355_2371 rfl rfl rfl <| w_f b355 d355_2372 rfl (pf_lcmp _ _) rfl <| w_ifeq b355 d355_2373 rfl rfl (by decide +kernel) (bd_toInt _) (fun c7 => w_j b355 d355_2378 rfl (by decide +kernel) <| (((hkw3.2.1 c5).2 c6).1 c7)) (fun c7 => w_f b355 d355_2376 rfl rfl rfl <| w_rz b355 d355_2377 r355 (by decide) (((hkw3.2.1 c5).2 c6).2 c7)))) (fun c5 => w_f b355 d355_2359 rfl rfl rfl <| w_rz b355 d355_2360 r355 (by decide) (hkw3.2.2 c5))) hkw1.2.2.2.2.2)) h.2.2.2.2
theorem v355_2381 {w : PW} {Q : PO → PW → Prop} {sn : Nat} {sf : Nat → Int32} {x5 : Int} {o6 : Option Value} {o7 : Option Value} {o8 : Option Value} {o9 : Option Value} (hs : Sh w) (hsn : Nat.blt sn 2147483648 = true) (hx5 : bd x5) (ho9 : pc2 o9 = false) (h : (Sc w sn sf) ∧ (0 ≤ (x5 + 1) ∧ (x5 + 1) < sn) ∧ (Sc w sn sf) ∧ (0 ≤ (x5 + 2) ∧ (x5 + 2) < sn) ∧ pC 173 [.ref 0, iv ((sf (x5 + 1).toNat).toInt), iv ((sf (x5 + 2).toNat).toInt), .ref 180] w (kX (kI fun u2 w1 => Sh w1 ∧ (Sc w1 sn sf) ∧ (0 ≤ (x5 + 1) ∧ (x5 + 1) < sn) ∧ (Sc w1 sn sf) ∧ (0 ≤ (x5 + 2) ∧ (x5 + 2) < sn) ∧ pC 332 [.ref 169, iv ((sf (x5 + 1).toNat).toInt), iv ((sf (x5 + 2).toNat).toInt)] w1 (kI fun u4 w3 => Sh w3 ∧ ((gI w3 169 0) = u2 → (u2 ≠ 0 → pX 355 3566 [some (.ref pSC), some (.ref 0), some (.ref 169), some (.ref 180), some (.ref 181), some (iv x5), some (iv u2), some (iv u4), o8, o9] [] w3 Q) ∧ (u2 = 0 → ((lCmp (gL w3 180 0) (i2L u4)) = 0 → pX 355 3566 [some (.ref pSC), some (.ref 0), some (.ref 169), some (.ref 180), some (.ref 181), some (iv x5), some (iv u2), some (iv u4), o8, o9] [] w3 Q) ∧ ((lCmp (gL w3 180 0) (i2L u4)) ≠ 0 → Q (.inl (some (iv 0))) w3))) ∧ ((gI w3 169 0) ≠ u2 → Q (.inl (some (iv 0))) w3))) Q)) : pX 355 2381 [some (.ref pSC), some (.ref 0), some (.ref 169), some (.ref 180), some (.ref 181), some (iv x5), o6, o7, o8, o9] [] w Q :=
  w_f b355 d355_2381 rfl rfl rfl <| w_f b355 d355_2382 rfl rfl rfl <| w_f b355 d355_2383 rfl rfl rfl <| w_f b355 d355_2385 rfl rfl rfl <| w_f b355 d355_2386 rfl (pf_iadd x5 1) rfl <| w_scl b355 d355_2387 rfl h.1 (bdix (n := sn) h.2.1 hsn) h.2.1 <| w_f b355 d355_2388 rfl rfl rfl <| w_f b355 d355_2389 rfl rfl rfl <| w_f b355 d355_2391 rfl rfl rfl <| w_f b355 d355_2392 rfl (pf_iadd x5 2) rfl <| w_scl b355 d355_2393 rfl h.2.2.1 (bdix (n := sn) h.2.2.2.1 hsn) h.2.2.2.1 <| w_f b355 d355_2394 rfl rfl rfl <| w_c b355 d355_2395 rfl (pcl_s4 (n := 4) rfl rfl rfl (by decide +kernel) rfl rfl) rfl _ (hK_X rfl (hK_I fun u2 w1 hbu2 hkw1 => w_f b355 d355_2398 rfl rfl rfl <| w_f b355 d355_2400 rfl rfl rfl <| w_f b355 d355_2401 rfl rfl rfl <| w_f b355 d355_2402 rfl rfl rfl <| w_f b355 d355_2404 rfl rfl rfl <| w_f b355 d355_2405 rfl (pf_iadd x5 1) rfl <| w_scl b355 d355_2406 rfl hkw1.2.1 (bdix (n := sn) hkw1.2.2.1 hsn) hkw1.2.2.1 <| w_f b355 d355_2407 rfl rfl rfl <| w_f b355 d355_2408 rfl rfl rfl <| w_f b355 d355_2410 rfl rfl rfl <| w_f b355 d355_2411 rfl (pf_iadd x5 2) rfl <| w_scl b355 d355_2412 rfl hkw1.2.2.2.1 (bdix (n := sn) hkw1.2.2.2.2.1 hsn) hkw1.2.2.2.2.1 <| w_c b355 d355_2413 rfl (pcl_v (n := 2) rfl rfl rfl (by decide +kernel) (sh_isOb hkw1.1 (tlt 169 rfl) tbC_169) rfl rfl) rfl _ (hK_I fun u4 w3 hbu4 hkw3 => w_f b355 d355_2416 rfl rfl rfl <| w_f b355 d355_2418 rfl rfl rfl <| w_cc b355 d355_2419 rfl (pcl_v (n := 0) rfl rfl rfl (by decide +kernel) (sh_isOb hkw3.1 (tlt 169 rfl) tbC_169) rfl rfl) rfl <| c217 hkw3.1 <| w_f b355 d355_2422 rfl rfl rfl <| w_iceq b355 d355_2424 rfl rfl (by decide +kernel) (bd_gI _ _ _) hbu2 (fun c5 => w_f b355 d355_2429 rfl rfl rfl <| w_ifne b355 d355_2431 rfl rfl (by decide +kernel) hbu2 (fun c6 => w_j b355 d355_2446 rfl (by decide +kernel) <| ((hkw3.2.1 c5).1 c6)) (fun c6 => w_f b355 d355_2434 rfl rfl rfl <| w_f b355 d355_2435 rfl rfl rfl <| w_lal b355 d355_2436 rfl hkw3.1 (tlt 180 rfl) tbC_180 (bdix (n := 1) ⟨by decide, by decide⟩ rfl) ⟨by decide, by decide⟩ <| w_f b355 d355_2437 rfl rfl rfl <| w_f b355 d355_2439 rfl rfl rfl <| w_f b355 d355_2440 rfl (pf_lcmp _ _) rfl <| w_ifeq b355 d355_2441 rfl rfl (by decide +kernel) (bd_toInt _) (fun c7 => w_j b355 d355_2446 rfl (by decide +kernel) <| (((hkw3.2.1 c5).2 c6).1 c7)) (fun c7 => w_f b355 d355_2444 rfl rfl rfl <| w_rz b355 d355_2445 r355 (by decide) (((hkw3.2.1 c5).2 c6).2 c7)))) (fun c5 => w_f b355 d355_2427 rfl rfl rfl <| w_rz b355 d355_2428 r355 (by decide) (hkw3.2.2 c5))) hkw1.2.2.2.2.2)) h.2.2.2.2
theorem v355_2449 {w : PW} {Q : PO → PW → Prop} {sn : Nat} {sf : Nat → Int32} {x5 : Int} {o6 : Option Value} {o7 : Option Value} {o8 : Option Value} {o9 : Option Value} (hs : Sh w) (hsn : Nat.blt sn 2147483648 = true) (hx5 : bd x5) (ho9 : pc2 o9 = false) (h : (Sc w sn sf) ∧ (0 ≤ (x5 + 1) ∧ (x5 + 1) < sn) ∧ (Sc w sn sf) ∧ (0 ≤ (x5 + 2) ∧ (x5 + 2) < sn) ∧ pC 175 [.ref 0, iv ((sf (x5 + 1).toNat).toInt), iv ((sf (x5 + 2).toNat).toInt), .ref 180] w (kX (kI fun u2 w1 => Sh w1 ∧ (Sc w1 sn sf) ∧ (0 ≤ (x5 + 1) ∧ (x5 + 1) < sn) ∧ (Sc w1 sn sf) ∧ (0 ≤ (x5 + 2) ∧ (x5 + 2) < sn) ∧ pC 333 [.ref 169, iv ((sf (x5 + 1).toNat).toInt), iv ((sf (x5 + 2).toNat).toInt)] w1 (kI fun u4 w3 => Sh w3 ∧ ((gI w3 169 0) = u2 → (u2 ≠ 0 → pX 355 3566 [some (.ref pSC), some (.ref 0), some (.ref 169), some (.ref 180), some (.ref 181), some (iv x5), some (iv u2), some (iv u4), o8, o9] [] w3 Q) ∧ (u2 = 0 → ((lCmp (gL w3 180 0) (i2L u4)) = 0 → pX 355 3566 [some (.ref pSC), some (.ref 0), some (.ref 169), some (.ref 180), some (.ref 181), some (iv x5), some (iv u2), some (iv u4), o8, o9] [] w3 Q) ∧ ((lCmp (gL w3 180 0) (i2L u4)) ≠ 0 → Q (.inl (some (iv 0))) w3))) ∧ ((gI w3 169 0) ≠ u2 → Q (.inl (some (iv 0))) w3))) Q)) : pX 355 2449 [some (.ref pSC), some (.ref 0), some (.ref 169), some (.ref 180), some (.ref 181), some (iv x5), o6, o7, o8, o9] [] w Q :=
  w_f b355 d355_2449 rfl rfl rfl <| w_f b355 d355_2450 rfl rfl rfl <| w_f b355 d355_2451 rfl rfl rfl <| w_f b355 d355_2453 rfl rfl rfl <| w_f b355 d355_2454 rfl (pf_iadd x5 1) rfl <| w_scl b355 d355_2455 rfl h.1 (bdix (n := sn) h.2.1 hsn) h.2.1 <| w_f b355 d355_2456 rfl rfl rfl <| w_f b355 d355_2457 rfl rfl rfl <| w_f b355 d355_2459 rfl rfl rfl <| w_f b355 d355_2460 rfl (pf_iadd x5 2) rfl <| w_scl b355 d355_2461 rfl h.2.2.1 (bdix (n := sn) h.2.2.2.1 hsn) h.2.2.2.1 <| w_f b355 d355_2462 rfl rfl rfl <| w_c b355 d355_2463 rfl (pcl_s4 (n := 4) rfl rfl rfl (by decide +kernel) rfl rfl) rfl _ (hK_X rfl (hK_I fun u2 w1 hbu2 hkw1 => w_f b355 d355_2466 rfl rfl rfl <| w_f b355 d355_2468 rfl rfl rfl <| w_f b355 d355_2469 rfl rfl rfl <| w_f b355 d355_2470 rfl rfl rfl <| w_f b355 d355_2472 rfl rfl rfl <| w_f b355 d355_2473 rfl (pf_iadd x5 1) rfl <| w_scl b355 d355_2474 rfl hkw1.2.1 (bdix (n := sn) hkw1.2.2.1 hsn) hkw1.2.2.1 <| w_f b355 d355_2475 rfl rfl rfl <| w_f b355 d355_2476 rfl rfl rfl <| w_f b355 d355_2478 rfl rfl rfl <| w_f b355 d355_2479 rfl (pf_iadd x5 2) rfl <| w_scl b355 d355_2480 rfl hkw1.2.2.2.1 (bdix (n := sn) hkw1.2.2.2.2.1 hsn) hkw1.2.2.2.2.1 <| w_c b355 d355_2481 rfl (pcl_v (n := 2) rfl rfl rfl (by decide +kernel) (sh_isOb hkw1.1 (tlt 169 rfl) tbC_169) rfl rfl) rfl _ (hK_I fun u4 w3 hbu4 hkw3 => w_f b355 d355_2484 rfl rfl rfl <| w_f b355 d355_2486 rfl rfl rfl <| w_cc b355 d355_2487 rfl (pcl_v (n := 0) rfl rfl rfl (by decide +kernel) (sh_isOb hkw3.1 (tlt 169 rfl) tbC_169) rfl rfl) rfl <| c217 hkw3.1 <| w_f b355 d355_2490 rfl rfl rfl <| w_iceq b355 d355_2492 rfl rfl (by decide +kernel) (bd_gI _ _ _) hbu2 (fun c5 => w_f b355 d355_2497 rfl rfl rfl <| w_ifne b355 d355_2499 rfl rfl (by decide +kernel) hbu2 (fun c6 => w_j b355 d355_2514 rfl (by decide +kernel) <| ((hkw3.2.1 c5).1 c6)) (fun c6 => w_f b355 d355_2502 rfl rfl rfl <| w_f b355 d355_2503 rfl rfl rfl <| w_lal b355 d355_2504 rfl hkw3.1 (tlt 180 rfl) tbC_180 (bdix (n := 1) ⟨by decide, by decide⟩ rfl) ⟨by decide, by decide⟩ <| w_f b355 d355_2505 rfl rfl rfl <| w_f b355 d355_2507 rfl rfl rfl <| w_f b355 d355_2508 rfl (pf_lcmp _ _) rfl <| w_ifeq b355 d355_2509 rfl rfl (by decide +kernel) (bd_toInt _) (fun c7 => w_j b355 d355_2514 rfl (by decide +kernel) <| (((hkw3.2.1 c5).2 c6).1 c7)) (fun c7 => w_f b355 d355_2512 rfl rfl rfl <| w_rz b355 d355_2513 r355 (by decide) (((hkw3.2.1 c5).2 c6).2 c7)))) (fun c5 => w_f b355 d355_2495 rfl rfl rfl <| w_rz b355 d355_2496 r355 (by decide) (hkw3.2.2 c5))) hkw1.2.2.2.2.2)) h.2.2.2.2
theorem v355_2517 {w : PW} {Q : PO → PW → Prop} {sn : Nat} {sf : Nat → Int32} {x5 : Int} {o6 : Option Value} {o7 : Option Value} {o8 : Option Value} {o9 : Option Value} (hs : Sh w) (hsn : Nat.blt sn 2147483648 = true) (hx5 : bd x5) (ho9 : pc2 o9 = false) (h : (Sc w sn sf) ∧ (0 ≤ (x5 + 1) ∧ (x5 + 1) < sn) ∧ (Sc w sn sf) ∧ (0 ≤ (x5 + 2) ∧ (x5 + 2) < sn) ∧ (Sc w sn sf) ∧ (0 ≤ (x5 + 3) ∧ (x5 + 3) < sn) ∧ (Sc w sn sf) ∧ (0 ≤ (x5 + 4) ∧ (x5 + 4) < sn) ∧ (((sf (x5 + 4).toNat).toInt) = 0 → pC 177 [.ref 0, iv ((sf (x5 + 1).toNat).toInt), iv ((sf (x5 + 2).toNat).toInt), iv ((sf (x5 + 3).toNat).toInt), iv 0, .ref 180] w (kX (kI fun u3 w2 => Sh w2 ∧ (Sc w2 sn sf) ∧ (0 ≤ (x5 + 1) ∧ (x5 + 1) < sn) ∧ (Sc w2 sn sf) ∧ (0 ≤ (x5 + 2) ∧ (x5 + 2) < sn) ∧ (Sc w2 sn sf) ∧ (0 ≤ (x5 + 3) ∧ (x5 + 3) < sn) ∧ (Sc w2 sn sf) ∧ (0 ≤ (x5 + 4) ∧ (x5 + 4) < sn) ∧ (((sf (x5 + 4).toNat).toInt) = 0 → pC 334 [.ref 169, iv ((sf (x5 + 1).toNat).toInt), iv ((sf (x5 + 2).toNat).toInt), iv ((sf (x5 + 3).toNat).toInt), iv 0] w2 (kI fun u6 w5 => Sh w5 ∧ ((gI w5 169 0) = u3 → (u3 ≠ 0 → pX 355 3566 [some (.ref pSC), some (.ref 0), some (.ref 169), some (.ref 180), some (.ref 181), some (iv x5), some (iv u3), some (iv u6), o8, o9] [] w5 Q) ∧ (u3 = 0 → (u6 = 0 → ((lCmp (gL w5 180 0) ((0 : Int64))) = 0 → pX 355 3566 [some (.ref pSC), some (.ref 0), some (.ref 169), some (.ref 180), some (.ref 181), some (iv x5), some (iv u3), some (iv u6), o8, o9] [] w5 Q) ∧ ((lCmp (gL w5 180 0) ((0 : Int64))) ≠ 0 → Q (.inl (some (iv 0))) w5)) ∧ (u6 ≠ 0 → ((lCmp (gL w5 180 0) ((1 : Int64))) = 0 → pX 355 3566 [some (.ref pSC), some (.ref 0), some (.ref 169), some (.ref 180), some (.ref 181), some (iv x5), some (iv u3), some (iv u6), o8, o9] [] w5 Q) ∧ ((lCmp (gL w5 180 0) ((1 : Int64))) ≠ 0 → Q (.inl (some (iv 0))) w5)))) ∧ ((gI w5 169 0) ≠ u3 → Q (.inl (some (iv 0))) w5))) ∧ (((sf (x5 + 4).toNat).toInt) ≠ 0 → pC 334 [.ref 169, iv ((sf (x5 + 1).toNat).toInt), iv ((sf (x5 + 2).toNat).toInt), iv ((sf (x5 + 3).toNat).toInt), iv 1] w2 (kI fun u13 w12 => Sh w12 ∧ ((gI w12 169 0) = u3 → (u3 ≠ 0 → pX 355 3566 [some (.ref pSC), some (.ref 0), some (.ref 169), some (.ref 180), some (.ref 181), some (iv x5), some (iv u3), some (iv u13), o8, o9] [] w12 Q) ∧ (u3 = 0 → (u13 = 0 → ((lCmp (gL w12 180 0) ((0 : Int64))) = 0 → pX 355 3566 [some (.ref pSC), some (.ref 0), some (.ref 169), some (.ref 180), some (.ref 181), some (iv x5), some (iv u3), some (iv u13), o8, o9] [] w12 Q) ∧ ((lCmp (gL w12 180 0) ((0 : Int64))) ≠ 0 → Q (.inl (some (iv 0))) w12)) ∧ (u13 ≠ 0 → ((lCmp (gL w12 180 0) ((1 : Int64))) = 0 → pX 355 3566 [some (.ref pSC), some (.ref 0), some (.ref 169), some (.ref 180), some (.ref 181), some (iv x5), some (iv u3), some (iv u13), o8, o9] [] w12 Q) ∧ ((lCmp (gL w12 180 0) ((1 : Int64))) ≠ 0 → Q (.inl (some (iv 0))) w12)))) ∧ ((gI w12 169 0) ≠ u3 → Q (.inl (some (iv 0))) w12)))) Q)) ∧ (((sf (x5 + 4).toNat).toInt) ≠ 0 → pC 177 [.ref 0, iv ((sf (x5 + 1).toNat).toInt), iv ((sf (x5 + 2).toNat).toInt), iv ((sf (x5 + 3).toNat).toInt), iv 1, .ref 180] w (kX (kI fun u20 w19 => Sh w19 ∧ (Sc w19 sn sf) ∧ (0 ≤ (x5 + 1) ∧ (x5 + 1) < sn) ∧ (Sc w19 sn sf) ∧ (0 ≤ (x5 + 2) ∧ (x5 + 2) < sn) ∧ (Sc w19 sn sf) ∧ (0 ≤ (x5 + 3) ∧ (x5 + 3) < sn) ∧ (Sc w19 sn sf) ∧ (0 ≤ (x5 + 4) ∧ (x5 + 4) < sn) ∧ (((sf (x5 + 4).toNat).toInt) = 0 → pC 334 [.ref 169, iv ((sf (x5 + 1).toNat).toInt), iv ((sf (x5 + 2).toNat).toInt), iv ((sf (x5 + 3).toNat).toInt), iv 0] w19 (kI fun u23 w22 => Sh w22 ∧ ((gI w22 169 0) = u20 → (u20 ≠ 0 → pX 355 3566 [some (.ref pSC), some (.ref 0), some (.ref 169), some (.ref 180), some (.ref 181), some (iv x5), some (iv u20), some (iv u23), o8, o9] [] w22 Q) ∧ (u20 = 0 → (u23 = 0 → ((lCmp (gL w22 180 0) ((0 : Int64))) = 0 → pX 355 3566 [some (.ref pSC), some (.ref 0), some (.ref 169), some (.ref 180), some (.ref 181), some (iv x5), some (iv u20), some (iv u23), o8, o9] [] w22 Q) ∧ ((lCmp (gL w22 180 0) ((0 : Int64))) ≠ 0 → Q (.inl (some (iv 0))) w22)) ∧ (u23 ≠ 0 → ((lCmp (gL w22 180 0) ((1 : Int64))) = 0 → pX 355 3566 [some (.ref pSC), some (.ref 0), some (.ref 169), some (.ref 180), some (.ref 181), some (iv x5), some (iv u20), some (iv u23), o8, o9] [] w22 Q) ∧ ((lCmp (gL w22 180 0) ((1 : Int64))) ≠ 0 → Q (.inl (some (iv 0))) w22)))) ∧ ((gI w22 169 0) ≠ u20 → Q (.inl (some (iv 0))) w22))) ∧ (((sf (x5 + 4).toNat).toInt) ≠ 0 → pC 334 [.ref 169, iv ((sf (x5 + 1).toNat).toInt), iv ((sf (x5 + 2).toNat).toInt), iv ((sf (x5 + 3).toNat).toInt), iv 1] w19 (kI fun u30 w29 => Sh w29 ∧ ((gI w29 169 0) = u20 → (u20 ≠ 0 → pX 355 3566 [some (.ref pSC), some (.ref 0), some (.ref 169), some (.ref 180), some (.ref 181), some (iv x5), some (iv u20), some (iv u30), o8, o9] [] w29 Q) ∧ (u20 = 0 → (u30 = 0 → ((lCmp (gL w29 180 0) ((0 : Int64))) = 0 → pX 355 3566 [some (.ref pSC), some (.ref 0), some (.ref 169), some (.ref 180), some (.ref 181), some (iv x5), some (iv u20), some (iv u30), o8, o9] [] w29 Q) ∧ ((lCmp (gL w29 180 0) ((0 : Int64))) ≠ 0 → Q (.inl (some (iv 0))) w29)) ∧ (u30 ≠ 0 → ((lCmp (gL w29 180 0) ((1 : Int64))) = 0 → pX 355 3566 [some (.ref pSC), some (.ref 0), some (.ref 169), some (.ref 180), some (.ref 181), some (iv x5), some (iv u20), some (iv u30), o8, o9] [] w29 Q) ∧ ((lCmp (gL w29 180 0) ((1 : Int64))) ≠ 0 → Q (.inl (some (iv 0))) w29)))) ∧ ((gI w29 169 0) ≠ u20 → Q (.inl (some (iv 0))) w29)))) Q))) : pX 355 2517 [some (.ref pSC), some (.ref 0), some (.ref 169), some (.ref 180), some (.ref 181), some (iv x5), o6, o7, o8, o9] [] w Q :=
  w_f b355 d355_2517 rfl rfl rfl <| w_f b355 d355_2518 rfl rfl rfl <| w_f b355 d355_2519 rfl rfl rfl <| w_f b355 d355_2521 rfl rfl rfl <| w_f b355 d355_2522 rfl (pf_iadd x5 1) rfl <| w_scl b355 d355_2523 rfl h.1 (bdix (n := sn) h.2.1 hsn) h.2.1 <| w_f b355 d355_2524 rfl rfl rfl <| w_f b355 d355_2525 rfl rfl rfl <| w_f b355 d355_2527 rfl rfl rfl <| w_f b355 d355_2528 rfl (pf_iadd x5 2) rfl <| w_scl b355 d355_2529 rfl h.2.2.1 (bdix (n := sn) h.2.2.2.1 hsn) h.2.2.2.1 <| w_f b355 d355_2530 rfl rfl rfl <| w_f b355 d355_2531 rfl rfl rfl <| w_f b355 d355_2533 rfl rfl rfl <| w_f b355 d355_2534 rfl (pf_iadd x5 3) rfl <| w_scl b355 d355_2535 rfl h.2.2.2.2.1 (bdix (n := sn) h.2.2.2.2.2.1 hsn) h.2.2.2.2.2.1 <| w_f b355 d355_2536 rfl rfl rfl <| w_f b355 d355_2537 rfl rfl rfl <| w_f b355 d355_2539 rfl rfl rfl <| w_f b355 d355_2540 rfl (pf_iadd x5 4) rfl <| w_scl b355 d355_2541 rfl h.2.2.2.2.2.2.1 (bdix (n := sn) h.2.2.2.2.2.2.2.1 hsn) h.2.2.2.2.2.2.2.1 <| w_ifeq b355 d355_2542 rfl rfl (by decide +kernel) (bd_toInt _) (fun c1 => w_f b355 d355_2549 rfl rfl rfl <| w_f b355 d355_2550 rfl rfl rfl <| w_c b355 d355_2551 rfl (pcl_s4 (n := 6) rfl rfl rfl (by decide +kernel) rfl rfl) rfl _ (hK_X rfl (hK_I fun u3 w2 hbu3 hkw2 => w_f b355 d355_2554 rfl rfl rfl <| w_f b355 d355_2556 rfl rfl rfl <| w_f b355 d355_2557 rfl rfl rfl <| w_f b355 d355_2558 rfl rfl rfl <| w_f b355 d355_2560 rfl rfl rfl <| w_f b355 d355_2561 rfl (pf_iadd x5 1) rfl <| w_scl b355 d355_2562 rfl hkw2.2.1 (bdix (n := sn) hkw2.2.2.1 hsn) hkw2.2.2.1 <| w_f b355 d355_2563 rfl rfl rfl <| w_f b355 d355_2564 rfl rfl rfl <| w_f b355 d355_2566 rfl rfl rfl <| w_f b355 d355_2567 rfl (pf_iadd x5 2) rfl <| w_scl b355 d355_2568 rfl hkw2.2.2.2.1 (bdix (n := sn) hkw2.2.2.2.2.1 hsn) hkw2.2.2.2.2.1 <| w_f b355 d355_2569 rfl rfl rfl <| w_f b355 d355_2570 rfl rfl rfl <| w_f b355 d355_2572 rfl rfl rfl <| w_f b355 d355_2573 rfl (pf_iadd x5 3) rfl <| w_scl b355 d355_2574 rfl hkw2.2.2.2.2.2.1 (bdix (n := sn) hkw2.2.2.2.2.2.2.1 hsn) hkw2.2.2.2.2.2.2.1 <| w_f b355 d355_2575 rfl rfl rfl <| w_f b355 d355_2576 rfl rfl rfl <| w_f b355 d355_2578 rfl rfl rfl <| w_f b355 d355_2579 rfl (pf_iadd x5 4) rfl <| w_scl b355 d355_2580 rfl hkw2.2.2.2.2.2.2.2.1 (bdix (n := sn) hkw2.2.2.2.2.2.2.2.2.1 hsn) hkw2.2.2.2.2.2.2.2.2.1 <| w_ifeq b355 d355_2581 rfl rfl (by decide +kernel) (bd_toInt _) (fun c4 => w_f b355 d355_2588 rfl rfl rfl <| w_c b355 d355_2589 rfl (pcl_v (n := 4) rfl rfl rfl (by decide +kernel) (sh_isOb hkw2.1 (tlt 169 rfl) tbC_169) rfl rfl) rfl _ (hK_I fun u6 w5 hbu6 hkw5 => w_f b355 d355_2592 rfl rfl rfl <| w_f b355 d355_2594 rfl rfl rfl <| w_cc b355 d355_2595 rfl (pcl_v (n := 0) rfl rfl rfl (by decide +kernel) (sh_isOb hkw5.1 (tlt 169 rfl) tbC_169) rfl rfl) rfl <| c217 hkw5.1 <| w_f b355 d355_2598 rfl rfl rfl <| w_iceq b355 d355_2600 rfl rfl (by decide +kernel) (bd_gI _ _ _) hbu3 (fun c7 => w_f b355 d355_2605 rfl rfl rfl <| w_ifne b355 d355_2607 rfl rfl (by decide +kernel) hbu3 (fun c8 => w_j b355 d355_2629 rfl (by decide +kernel) <| ((hkw5.2.1 c7).1 c8)) (fun c8 => w_f b355 d355_2610 rfl rfl rfl <| w_f b355 d355_2611 rfl rfl rfl <| w_lal b355 d355_2612 rfl hkw5.1 (tlt 180 rfl) tbC_180 (bdix (n := 1) ⟨by decide, by decide⟩ rfl) ⟨by decide, by decide⟩ <| w_f b355 d355_2613 rfl rfl rfl <| w_ifeq b355 d355_2615 rfl rfl (by decide +kernel) hbu6 (fun c9 => w_f b355 d355_2622 rfl rfl rfl <| w_f b355 d355_2623 rfl (pf_lcmp _ _) rfl <| w_ifeq b355 d355_2624 rfl rfl (by decide +kernel) (bd_toInt _) (fun c10 => w_j b355 d355_2629 rfl (by decide +kernel) <| ((((hkw5.2.1 c7).2 c8).1 c9).1 c10)) (fun c10 => w_f b355 d355_2627 rfl rfl rfl <| w_rz b355 d355_2628 r355 (by decide) ((((hkw5.2.1 c7).2 c8).1 c9).2 c10))) (fun c9 => w_f b355 d355_2618 rfl rfl rfl <| w_j b355 d355_2619 rfl (by decide +kernel) <| w_f b355 d355_2623 rfl (pf_lcmp _ _) rfl <| w_ifeq b355 d355_2624 rfl rfl (by decide +kernel) (bd_toInt _) (fun c11 => w_j b355 d355_2629 rfl (by decide +kernel) <| ((((hkw5.2.1 c7).2 c8).2 c9).1 c11)) (fun c11 => w_f b355 d355_2627 rfl rfl rfl <| w_rz b355 d355_2628 r355 (by decide) ((((hkw5.2.1 c7).2 c8).2 c9).2 c11))))) (fun c7 => w_f b355 d355_2603 rfl rfl rfl <| w_rz b355 d355_2604 r355 (by decide) (hkw5.2.2 c7))) (hkw2.2.2.2.2.2.2.2.2.2.1 c4)) (fun c4 => w_f b355 d355_2584 rfl rfl rfl <| w_j b355 d355_2585 rfl (by decide +kernel) <| w_c b355 d355_2589 rfl (pcl_v (n := 4) rfl rfl rfl (by decide +kernel) (sh_isOb hkw2.1 (tlt 169 rfl) tbC_169) rfl rfl) rfl _ (hK_I fun u13 w12 hbu13 hkw12 => w_f b355 d355_2592 rfl rfl rfl <| w_f b355 d355_2594 rfl rfl rfl <| w_cc b355 d355_2595 rfl (pcl_v (n := 0) rfl rfl rfl (by decide +kernel) (sh_isOb hkw12.1 (tlt 169 rfl) tbC_169) rfl rfl) rfl <| c217 hkw12.1 <| w_f b355 d355_2598 rfl rfl rfl <| w_iceq b355 d355_2600 rfl rfl (by decide +kernel) (bd_gI _ _ _) hbu3 (fun c14 => w_f b355 d355_2605 rfl rfl rfl <| w_ifne b355 d355_2607 rfl rfl (by decide +kernel) hbu3 (fun c15 => w_j b355 d355_2629 rfl (by decide +kernel) <| ((hkw12.2.1 c14).1 c15)) (fun c15 => w_f b355 d355_2610 rfl rfl rfl <| w_f b355 d355_2611 rfl rfl rfl <| w_lal b355 d355_2612 rfl hkw12.1 (tlt 180 rfl) tbC_180 (bdix (n := 1) ⟨by decide, by decide⟩ rfl) ⟨by decide, by decide⟩ <| w_f b355 d355_2613 rfl rfl rfl <| w_ifeq b355 d355_2615 rfl rfl (by decide +kernel) hbu13 (fun c16 => w_f b355 d355_2622 rfl rfl rfl <| w_f b355 d355_2623 rfl (pf_lcmp _ _) rfl <| w_ifeq b355 d355_2624 rfl rfl (by decide +kernel) (bd_toInt _) (fun c17 => w_j b355 d355_2629 rfl (by decide +kernel) <| ((((hkw12.2.1 c14).2 c15).1 c16).1 c17)) (fun c17 => w_f b355 d355_2627 rfl rfl rfl <| w_rz b355 d355_2628 r355 (by decide) ((((hkw12.2.1 c14).2 c15).1 c16).2 c17))) (fun c16 => w_f b355 d355_2618 rfl rfl rfl <| w_j b355 d355_2619 rfl (by decide +kernel) <| w_f b355 d355_2623 rfl (pf_lcmp _ _) rfl <| w_ifeq b355 d355_2624 rfl rfl (by decide +kernel) (bd_toInt _) (fun c18 => w_j b355 d355_2629 rfl (by decide +kernel) <| ((((hkw12.2.1 c14).2 c15).2 c16).1 c18)) (fun c18 => w_f b355 d355_2627 rfl rfl rfl <| w_rz b355 d355_2628 r355 (by decide) ((((hkw12.2.1 c14).2 c15).2 c16).2 c18))))) (fun c14 => w_f b355 d355_2603 rfl rfl rfl <| w_rz b355 d355_2604 r355 (by decide) (hkw12.2.2 c14))) (hkw2.2.2.2.2.2.2.2.2.2.2 c4)))) (h.2.2.2.2.2.2.2.2.1 c1)) (fun c1 => w_f b355 d355_2545 rfl rfl rfl <| w_j b355 d355_2546 rfl (by decide +kernel) <| w_f b355 d355_2550 rfl rfl rfl <| w_c b355 d355_2551 rfl (pcl_s4 (n := 6) rfl rfl rfl (by decide +kernel) rfl rfl) rfl _ (hK_X rfl (hK_I fun u20 w19 hbu20 hkw19 => w_f b355 d355_2554 rfl rfl rfl <| w_f b355 d355_2556 rfl rfl rfl <| w_f b355 d355_2557 rfl rfl rfl <| w_f b355 d355_2558 rfl rfl rfl <| w_f b355 d355_2560 rfl rfl rfl <| w_f b355 d355_2561 rfl (pf_iadd x5 1) rfl <| w_scl b355 d355_2562 rfl hkw19.2.1 (bdix (n := sn) hkw19.2.2.1 hsn) hkw19.2.2.1 <| w_f b355 d355_2563 rfl rfl rfl <| w_f b355 d355_2564 rfl rfl rfl <| w_f b355 d355_2566 rfl rfl rfl <| w_f b355 d355_2567 rfl (pf_iadd x5 2) rfl <| w_scl b355 d355_2568 rfl hkw19.2.2.2.1 (bdix (n := sn) hkw19.2.2.2.2.1 hsn) hkw19.2.2.2.2.1 <| w_f b355 d355_2569 rfl rfl rfl <| w_f b355 d355_2570 rfl rfl rfl <| w_f b355 d355_2572 rfl rfl rfl <| w_f b355 d355_2573 rfl (pf_iadd x5 3) rfl <| w_scl b355 d355_2574 rfl hkw19.2.2.2.2.2.1 (bdix (n := sn) hkw19.2.2.2.2.2.2.1 hsn) hkw19.2.2.2.2.2.2.1 <| w_f b355 d355_2575 rfl rfl rfl <| w_f b355 d355_2576 rfl rfl rfl <| w_f b355 d355_2578 rfl rfl rfl <| w_f b355 d355_2579 rfl (pf_iadd x5 4) rfl <| w_scl b355 d355_2580 rfl hkw19.2.2.2.2.2.2.2.1 (bdix (n := sn) hkw19.2.2.2.2.2.2.2.2.1 hsn) hkw19.2.2.2.2.2.2.2.2.1 <| w_ifeq b355 d355_2581 rfl rfl (by decide +kernel) (bd_toInt _) (fun c21 => w_f b355 d355_2588 rfl rfl rfl <| w_c b355 d355_2589 rfl (pcl_v (n := 4) rfl rfl rfl (by decide +kernel) (sh_isOb hkw19.1 (tlt 169 rfl) tbC_169) rfl rfl) rfl _ (hK_I fun u23 w22 hbu23 hkw22 => w_f b355 d355_2592 rfl rfl rfl <| w_f b355 d355_2594 rfl rfl rfl <| w_cc b355 d355_2595 rfl (pcl_v (n := 0) rfl rfl rfl (by decide +kernel) (sh_isOb hkw22.1 (tlt 169 rfl) tbC_169) rfl rfl) rfl <| c217 hkw22.1 <| w_f b355 d355_2598 rfl rfl rfl <| w_iceq b355 d355_2600 rfl rfl (by decide +kernel) (bd_gI _ _ _) hbu20 (fun c24 => w_f b355 d355_2605 rfl rfl rfl <| w_ifne b355 d355_2607 rfl rfl (by decide +kernel) hbu20 (fun c25 => w_j b355 d355_2629 rfl (by decide +kernel) <| ((hkw22.2.1 c24).1 c25)) (fun c25 => w_f b355 d355_2610 rfl rfl rfl <| w_f b355 d355_2611 rfl rfl rfl <| w_lal b355 d355_2612 rfl hkw22.1 (tlt 180 rfl) tbC_180 (bdix (n := 1) ⟨by decide, by decide⟩ rfl) ⟨by decide, by decide⟩ <| w_f b355 d355_2613 rfl rfl rfl <| w_ifeq b355 d355_2615 rfl rfl (by decide +kernel) hbu23 (fun c26 => w_f b355 d355_2622 rfl rfl rfl <| w_f b355 d355_2623 rfl (pf_lcmp _ _) rfl <| w_ifeq b355 d355_2624 rfl rfl (by decide +kernel) (bd_toInt _) (fun c27 => w_j b355 d355_2629 rfl (by decide +kernel) <| ((((hkw22.2.1 c24).2 c25).1 c26).1 c27)) (fun c27 => w_f b355 d355_2627 rfl rfl rfl <| w_rz b355 d355_2628 r355 (by decide) ((((hkw22.2.1 c24).2 c25).1 c26).2 c27))) (fun c26 => w_f b355 d355_2618 rfl rfl rfl <| w_j b355 d355_2619 rfl (by decide +kernel) <| w_f b355 d355_2623 rfl (pf_lcmp _ _) rfl <| w_ifeq b355 d355_2624 rfl rfl (by decide +kernel) (bd_toInt _) (fun c28 => w_j b355 d355_2629 rfl (by decide +kernel) <| ((((hkw22.2.1 c24).2 c25).2 c26).1 c28)) (fun c28 => w_f b355 d355_2627 rfl rfl rfl <| w_rz b355 d355_2628 r355 (by decide) ((((hkw22.2.1 c24).2 c25).2 c26).2 c28))))) (fun c24 => w_f b355 d355_2603 rfl rfl rfl <| w_rz b355 d355_2604 r355 (by decide) (hkw22.2.2 c24))) (hkw19.2.2.2.2.2.2.2.2.2.1 c21)) (fun c21 => w_f b355 d355_2584 rfl rfl rfl <| w_j b355 d355_2585 rfl (by decide +kernel) <| w_c b355 d355_2589 rfl (pcl_v (n := 4) rfl rfl rfl (by decide +kernel) (sh_isOb hkw19.1 (tlt 169 rfl) tbC_169) rfl rfl) rfl _ (hK_I fun u30 w29 hbu30 hkw29 => w_f b355 d355_2592 rfl rfl rfl <| w_f b355 d355_2594 rfl rfl rfl <| w_cc b355 d355_2595 rfl (pcl_v (n := 0) rfl rfl rfl (by decide +kernel) (sh_isOb hkw29.1 (tlt 169 rfl) tbC_169) rfl rfl) rfl <| c217 hkw29.1 <| w_f b355 d355_2598 rfl rfl rfl <| w_iceq b355 d355_2600 rfl rfl (by decide +kernel) (bd_gI _ _ _) hbu20 (fun c31 => w_f b355 d355_2605 rfl rfl rfl <| w_ifne b355 d355_2607 rfl rfl (by decide +kernel) hbu20 (fun c32 => w_j b355 d355_2629 rfl (by decide +kernel) <| ((hkw29.2.1 c31).1 c32)) (fun c32 => w_f b355 d355_2610 rfl rfl rfl <| w_f b355 d355_2611 rfl rfl rfl <| w_lal b355 d355_2612 rfl hkw29.1 (tlt 180 rfl) tbC_180 (bdix (n := 1) ⟨by decide, by decide⟩ rfl) ⟨by decide, by decide⟩ <| w_f b355 d355_2613 rfl rfl rfl <| w_ifeq b355 d355_2615 rfl rfl (by decide +kernel) hbu30 (fun c33 => w_f b355 d355_2622 rfl rfl rfl <| w_f b355 d355_2623 rfl (pf_lcmp _ _) rfl <| w_ifeq b355 d355_2624 rfl rfl (by decide +kernel) (bd_toInt _) (fun c34 => w_j b355 d355_2629 rfl (by decide +kernel) <| ((((hkw29.2.1 c31).2 c32).1 c33).1 c34)) (fun c34 => w_f b355 d355_2627 rfl rfl rfl <| w_rz b355 d355_2628 r355 (by decide) ((((hkw29.2.1 c31).2 c32).1 c33).2 c34))) (fun c33 => w_f b355 d355_2618 rfl rfl rfl <| w_j b355 d355_2619 rfl (by decide +kernel) <| w_f b355 d355_2623 rfl (pf_lcmp _ _) rfl <| w_ifeq b355 d355_2624 rfl rfl (by decide +kernel) (bd_toInt _) (fun c35 => w_j b355 d355_2629 rfl (by decide +kernel) <| ((((hkw29.2.1 c31).2 c32).2 c33).1 c35)) (fun c35 => w_f b355 d355_2627 rfl rfl rfl <| w_rz b355 d355_2628 r355 (by decide) ((((hkw29.2.1 c31).2 c32).2 c33).2 c35))))) (fun c31 => w_f b355 d355_2603 rfl rfl rfl <| w_rz b355 d355_2604 r355 (by decide) (hkw29.2.2 c31))) (hkw19.2.2.2.2.2.2.2.2.2.2 c21)))) (h.2.2.2.2.2.2.2.2.2 c1))
theorem v355_2632 {w : PW} {Q : PO → PW → Prop} {sn : Nat} {sf : Nat → Int32} {x5 : Int} {o6 : Option Value} {o7 : Option Value} {o8 : Option Value} {o9 : Option Value} (hs : Sh w) (hsn : Nat.blt sn 2147483648 = true) (hx5 : bd x5) (ho9 : pc2 o9 = false) (h : (Sc w sn sf) ∧ (0 ≤ (x5 + 1) ∧ (x5 + 1) < sn) ∧ pC 179 [.ref 0, iv ((sf (x5 + 1).toNat).toInt), .ref 180] w (kX (kI fun u2 w1 => Sh w1 ∧ (Sc w1 sn sf) ∧ (0 ≤ (x5 + 1) ∧ (x5 + 1) < sn) ∧ pC 336 [.ref 169, iv ((sf (x5 + 1).toNat).toInt)] w1 (kI fun u4 w3 => Sh w3 ∧ ((gI w3 169 0) = u2 → (u2 ≠ 0 → pX 355 3566 [some (.ref pSC), some (.ref 0), some (.ref 169), some (.ref 180), some (.ref 181), some (iv x5), some (iv u2), some (iv u4), o8, o9] [] w3 Q) ∧ (u2 = 0 → ((lCmp (gL w3 180 0) (i2L u4)) = 0 → pX 355 3566 [some (.ref pSC), some (.ref 0), some (.ref 169), some (.ref 180), some (.ref 181), some (iv x5), some (iv u2), some (iv u4), o8, o9] [] w3 Q) ∧ ((lCmp (gL w3 180 0) (i2L u4)) ≠ 0 → Q (.inl (some (iv 0))) w3))) ∧ ((gI w3 169 0) ≠ u2 → Q (.inl (some (iv 0))) w3))) Q)) : pX 355 2632 [some (.ref pSC), some (.ref 0), some (.ref 169), some (.ref 180), some (.ref 181), some (iv x5), o6, o7, o8, o9] [] w Q :=
  w_f b355 d355_2632 rfl rfl rfl <| w_f b355 d355_2633 rfl rfl rfl <| w_f b355 d355_2634 rfl rfl rfl <| w_f b355 d355_2636 rfl rfl rfl <| w_f b355 d355_2637 rfl (pf_iadd x5 1) rfl <| w_scl b355 d355_2638 rfl h.1 (bdix (n := sn) h.2.1 hsn) h.2.1 <| w_f b355 d355_2639 rfl rfl rfl <| w_c b355 d355_2640 rfl (pcl_s4 (n := 3) rfl rfl rfl (by decide +kernel) rfl rfl) rfl _ (hK_X rfl (hK_I fun u2 w1 hbu2 hkw1 => w_f b355 d355_2643 rfl rfl rfl <| w_f b355 d355_2645 rfl rfl rfl <| w_f b355 d355_2646 rfl rfl rfl <| w_f b355 d355_2647 rfl rfl rfl <| w_f b355 d355_2649 rfl rfl rfl <| w_f b355 d355_2650 rfl (pf_iadd x5 1) rfl <| w_scl b355 d355_2651 rfl hkw1.2.1 (bdix (n := sn) hkw1.2.2.1 hsn) hkw1.2.2.1 <| w_c b355 d355_2652 rfl (pcl_v (n := 1) rfl rfl rfl (by decide +kernel) (sh_isOb hkw1.1 (tlt 169 rfl) tbC_169) rfl rfl) rfl _ (hK_I fun u4 w3 hbu4 hkw3 => w_f b355 d355_2655 rfl rfl rfl <| w_f b355 d355_2657 rfl rfl rfl <| w_cc b355 d355_2658 rfl (pcl_v (n := 0) rfl rfl rfl (by decide +kernel) (sh_isOb hkw3.1 (tlt 169 rfl) tbC_169) rfl rfl) rfl <| c217 hkw3.1 <| w_f b355 d355_2661 rfl rfl rfl <| w_iceq b355 d355_2663 rfl rfl (by decide +kernel) (bd_gI _ _ _) hbu2 (fun c5 => w_f b355 d355_2668 rfl rfl rfl <| w_ifne b355 d355_2670 rfl rfl (by decide +kernel) hbu2 (fun c6 => w_j b355 d355_2685 rfl (by decide +kernel) <| ((hkw3.2.1 c5).1 c6)) (fun c6 => w_f b355 d355_2673 rfl rfl rfl <| w_f b355 d355_2674 rfl rfl rfl <| w_lal b355 d355_2675 rfl hkw3.1 (tlt 180 rfl) tbC_180 (bdix (n := 1) ⟨by decide, by decide⟩ rfl) ⟨by decide, by decide⟩ <| w_f b355 d355_2676 rfl rfl rfl <| w_f b355 d355_2678 rfl rfl rfl <| w_f b355 d355_2679 rfl (pf_lcmp _ _) rfl <| w_ifeq b355 d355_2680 rfl rfl (by decide +kernel) (bd_toInt _) (fun c7 => w_j b355 d355_2685 rfl (by decide +kernel) <| (((hkw3.2.1 c5).2 c6).1 c7)) (fun c7 => w_f b355 d355_2683 rfl rfl rfl <| w_rz b355 d355_2684 r355 (by decide) (((hkw3.2.1 c5).2 c6).2 c7)))) (fun c5 => w_f b355 d355_2666 rfl rfl rfl <| w_rz b355 d355_2667 r355 (by decide) (hkw3.2.2 c5))) hkw1.2.2.2)) h.2.2
theorem v355_2688 {w : PW} {Q : PO → PW → Prop} {sn : Nat} {sf : Nat → Int32} {x5 : Int} {o6 : Option Value} {o7 : Option Value} {o8 : Option Value} {o9 : Option Value} (hs : Sh w) (hsn : Nat.blt sn 2147483648 = true) (hx5 : bd x5) (ho9 : pc2 o9 = false) (h : (Sc w sn sf) ∧ (0 ≤ (x5 + 1) ∧ (x5 + 1) < sn) ∧ pC 182 [.ref 0, iv ((sf (x5 + 1).toNat).toInt), .ref 180] w (kX (kI fun u2 w1 => Sh w1 ∧ (Sc w1 sn sf) ∧ (0 ≤ (x5 + 1) ∧ (x5 + 1) < sn) ∧ pC 337 [.ref 169, iv ((sf (x5 + 1).toNat).toInt)] w1 (kI fun u4 w3 => Sh w3 ∧ ((gI w3 169 0) = u2 → (u2 ≠ 0 → pX 355 3566 [some (.ref pSC), some (.ref 0), some (.ref 169), some (.ref 180), some (.ref 181), some (iv x5), some (iv u2), some (iv u4), o8, o9] [] w3 Q) ∧ (u2 = 0 → ((lCmp (gL w3 180 0) (i2L u4)) = 0 → pX 355 3566 [some (.ref pSC), some (.ref 0), some (.ref 169), some (.ref 180), some (.ref 181), some (iv x5), some (iv u2), some (iv u4), o8, o9] [] w3 Q) ∧ ((lCmp (gL w3 180 0) (i2L u4)) ≠ 0 → Q (.inl (some (iv 0))) w3))) ∧ ((gI w3 169 0) ≠ u2 → Q (.inl (some (iv 0))) w3))) Q)) : pX 355 2688 [some (.ref pSC), some (.ref 0), some (.ref 169), some (.ref 180), some (.ref 181), some (iv x5), o6, o7, o8, o9] [] w Q :=
  w_f b355 d355_2688 rfl rfl rfl <| w_f b355 d355_2689 rfl rfl rfl <| w_f b355 d355_2690 rfl rfl rfl <| w_f b355 d355_2692 rfl rfl rfl <| w_f b355 d355_2693 rfl (pf_iadd x5 1) rfl <| w_scl b355 d355_2694 rfl h.1 (bdix (n := sn) h.2.1 hsn) h.2.1 <| w_f b355 d355_2695 rfl rfl rfl <| w_c b355 d355_2696 rfl (pcl_s4 (n := 3) rfl rfl rfl (by decide +kernel) rfl rfl) rfl _ (hK_X rfl (hK_I fun u2 w1 hbu2 hkw1 => w_f b355 d355_2699 rfl rfl rfl <| w_f b355 d355_2701 rfl rfl rfl <| w_f b355 d355_2702 rfl rfl rfl <| w_f b355 d355_2703 rfl rfl rfl <| w_f b355 d355_2705 rfl rfl rfl <| w_f b355 d355_2706 rfl (pf_iadd x5 1) rfl <| w_scl b355 d355_2707 rfl hkw1.2.1 (bdix (n := sn) hkw1.2.2.1 hsn) hkw1.2.2.1 <| w_c b355 d355_2708 rfl (pcl_v (n := 1) rfl rfl rfl (by decide +kernel) (sh_isOb hkw1.1 (tlt 169 rfl) tbC_169) rfl rfl) rfl _ (hK_I fun u4 w3 hbu4 hkw3 => w_f b355 d355_2711 rfl rfl rfl <| w_f b355 d355_2713 rfl rfl rfl <| w_cc b355 d355_2714 rfl (pcl_v (n := 0) rfl rfl rfl (by decide +kernel) (sh_isOb hkw3.1 (tlt 169 rfl) tbC_169) rfl rfl) rfl <| c217 hkw3.1 <| w_f b355 d355_2717 rfl rfl rfl <| w_iceq b355 d355_2719 rfl rfl (by decide +kernel) (bd_gI _ _ _) hbu2 (fun c5 => w_f b355 d355_2724 rfl rfl rfl <| w_ifne b355 d355_2726 rfl rfl (by decide +kernel) hbu2 (fun c6 => w_j b355 d355_2741 rfl (by decide +kernel) <| ((hkw3.2.1 c5).1 c6)) (fun c6 => w_f b355 d355_2729 rfl rfl rfl <| w_f b355 d355_2730 rfl rfl rfl <| w_lal b355 d355_2731 rfl hkw3.1 (tlt 180 rfl) tbC_180 (bdix (n := 1) ⟨by decide, by decide⟩ rfl) ⟨by decide, by decide⟩ <| w_f b355 d355_2732 rfl rfl rfl <| w_f b355 d355_2734 rfl rfl rfl <| w_f b355 d355_2735 rfl (pf_lcmp _ _) rfl <| w_ifeq b355 d355_2736 rfl rfl (by decide +kernel) (bd_toInt _) (fun c7 => w_j b355 d355_2741 rfl (by decide +kernel) <| (((hkw3.2.1 c5).2 c6).1 c7)) (fun c7 => w_f b355 d355_2739 rfl rfl rfl <| w_rz b355 d355_2740 r355 (by decide) (((hkw3.2.1 c5).2 c6).2 c7)))) (fun c5 => w_f b355 d355_2722 rfl rfl rfl <| w_rz b355 d355_2723 r355 (by decide) (hkw3.2.2 c5))) hkw1.2.2.2)) h.2.2
theorem v355_2744 {w : PW} {Q : PO → PW → Prop} {sn : Nat} {sf : Nat → Int32} {x5 : Int} {o6 : Option Value} {o7 : Option Value} {o8 : Option Value} {o9 : Option Value} (hs : Sh w) (hsn : Nat.blt sn 2147483648 = true) (hx5 : bd x5) (ho9 : pc2 o9 = false) (h : (Sc w sn sf) ∧ (0 ≤ (x5 + 1) ∧ (x5 + 1) < sn) ∧ (Sc w sn sf) ∧ (0 ≤ (x5 + 2) ∧ (x5 + 2) < sn) ∧ pC 186 [.ref 0, iv ((sf (x5 + 1).toNat).toInt), iv ((sf (x5 + 2).toNat).toInt), .ref 180] w (kX (kI fun u2 w1 => Sh w1 ∧ (Sc w1 sn sf) ∧ (0 ≤ (x5 + 1) ∧ (x5 + 1) < sn) ∧ (Sc w1 sn sf) ∧ (0 ≤ (x5 + 2) ∧ (x5 + 2) < sn) ∧ pC 338 [.ref 169, iv ((sf (x5 + 1).toNat).toInt), iv ((sf (x5 + 2).toNat).toInt)] w1 (kI fun u4 w3 => Sh w3 ∧ ((gI w3 169 0) = u2 → (u2 ≠ 0 → pX 355 3566 [some (.ref pSC), some (.ref 0), some (.ref 169), some (.ref 180), some (.ref 181), some (iv x5), some (iv u2), some (iv u4), o8, o9] [] w3 Q) ∧ (u2 = 0 → ((lCmp (gL w3 180 0) (i2L u4)) = 0 → pX 355 3566 [some (.ref pSC), some (.ref 0), some (.ref 169), some (.ref 180), some (.ref 181), some (iv x5), some (iv u2), some (iv u4), o8, o9] [] w3 Q) ∧ ((lCmp (gL w3 180 0) (i2L u4)) ≠ 0 → Q (.inl (some (iv 0))) w3))) ∧ ((gI w3 169 0) ≠ u2 → Q (.inl (some (iv 0))) w3))) Q)) : pX 355 2744 [some (.ref pSC), some (.ref 0), some (.ref 169), some (.ref 180), some (.ref 181), some (iv x5), o6, o7, o8, o9] [] w Q :=
  w_f b355 d355_2744 rfl rfl rfl <| w_f b355 d355_2745 rfl rfl rfl <| w_f b355 d355_2746 rfl rfl rfl <| w_f b355 d355_2748 rfl rfl rfl <| w_f b355 d355_2749 rfl (pf_iadd x5 1) rfl <| w_scl b355 d355_2750 rfl h.1 (bdix (n := sn) h.2.1 hsn) h.2.1 <| w_f b355 d355_2751 rfl rfl rfl <| w_f b355 d355_2752 rfl rfl rfl <| w_f b355 d355_2754 rfl rfl rfl <| w_f b355 d355_2755 rfl (pf_iadd x5 2) rfl <| w_scl b355 d355_2756 rfl h.2.2.1 (bdix (n := sn) h.2.2.2.1 hsn) h.2.2.2.1 <| w_f b355 d355_2757 rfl rfl rfl <| w_c b355 d355_2758 rfl (pcl_s4 (n := 4) rfl rfl rfl (by decide +kernel) rfl rfl) rfl _ (hK_X rfl (hK_I fun u2 w1 hbu2 hkw1 => w_f b355 d355_2761 rfl rfl rfl <| w_f b355 d355_2763 rfl rfl rfl <| w_f b355 d355_2764 rfl rfl rfl <| w_f b355 d355_2765 rfl rfl rfl <| w_f b355 d355_2767 rfl rfl rfl <| w_f b355 d355_2768 rfl (pf_iadd x5 1) rfl <| w_scl b355 d355_2769 rfl hkw1.2.1 (bdix (n := sn) hkw1.2.2.1 hsn) hkw1.2.2.1 <| w_f b355 d355_2770 rfl rfl rfl <| w_f b355 d355_2771 rfl rfl rfl <| w_f b355 d355_2773 rfl rfl rfl <| w_f b355 d355_2774 rfl (pf_iadd x5 2) rfl <| w_scl b355 d355_2775 rfl hkw1.2.2.2.1 (bdix (n := sn) hkw1.2.2.2.2.1 hsn) hkw1.2.2.2.2.1 <| w_c b355 d355_2776 rfl (pcl_v (n := 2) rfl rfl rfl (by decide +kernel) (sh_isOb hkw1.1 (tlt 169 rfl) tbC_169) rfl rfl) rfl _ (hK_I fun u4 w3 hbu4 hkw3 => w_f b355 d355_2779 rfl rfl rfl <| w_f b355 d355_2781 rfl rfl rfl <| w_cc b355 d355_2782 rfl (pcl_v (n := 0) rfl rfl rfl (by decide +kernel) (sh_isOb hkw3.1 (tlt 169 rfl) tbC_169) rfl rfl) rfl <| c217 hkw3.1 <| w_f b355 d355_2785 rfl rfl rfl <| w_iceq b355 d355_2787 rfl rfl (by decide +kernel) (bd_gI _ _ _) hbu2 (fun c5 => w_f b355 d355_2792 rfl rfl rfl <| w_ifne b355 d355_2794 rfl rfl (by decide +kernel) hbu2 (fun c6 => w_j b355 d355_2809 rfl (by decide +kernel) <| ((hkw3.2.1 c5).1 c6)) (fun c6 => w_f b355 d355_2797 rfl rfl rfl <| w_f b355 d355_2798 rfl rfl rfl <| w_lal b355 d355_2799 rfl hkw3.1 (tlt 180 rfl) tbC_180 (bdix (n := 1) ⟨by decide, by decide⟩ rfl) ⟨by decide, by decide⟩ <| w_f b355 d355_2800 rfl rfl rfl <| w_f b355 d355_2802 rfl rfl rfl <| w_f b355 d355_2803 rfl (pf_lcmp _ _) rfl <| w_ifeq b355 d355_2804 rfl rfl (by decide +kernel) (bd_toInt _) (fun c7 => w_j b355 d355_2809 rfl (by decide +kernel) <| (((hkw3.2.1 c5).2 c6).1 c7)) (fun c7 => w_f b355 d355_2807 rfl rfl rfl <| w_rz b355 d355_2808 r355 (by decide) (((hkw3.2.1 c5).2 c6).2 c7)))) (fun c5 => w_f b355 d355_2790 rfl rfl rfl <| w_rz b355 d355_2791 r355 (by decide) (hkw3.2.2 c5))) hkw1.2.2.2.2.2)) h.2.2.2.2
theorem v355_2812 {w : PW} {Q : PO → PW → Prop} {sn : Nat} {sf : Nat → Int32} {x5 : Int} {o6 : Option Value} {o7 : Option Value} {o8 : Option Value} {o9 : Option Value} (hs : Sh w) (hsn : Nat.blt sn 2147483648 = true) (hx5 : bd x5) (ho9 : pc2 o9 = false) (h : (Sc w sn sf) ∧ (0 ≤ (x5 + 1) ∧ (x5 + 1) < sn) ∧ (Sc w sn sf) ∧ (0 ≤ (x5 + 2) ∧ (x5 + 2) < sn) ∧ pC 189 [.ref 0, iv ((sf (x5 + 1).toNat).toInt), iv ((sf (x5 + 2).toNat).toInt), .ref 180] w (kX (kI fun u2 w1 => Sh w1 ∧ (Sc w1 sn sf) ∧ (0 ≤ (x5 + 1) ∧ (x5 + 1) < sn) ∧ (Sc w1 sn sf) ∧ (0 ≤ (x5 + 2) ∧ (x5 + 2) < sn) ∧ pC 339 [.ref 169, iv ((sf (x5 + 1).toNat).toInt), iv ((sf (x5 + 2).toNat).toInt)] w1 (kI fun u4 w3 => Sh w3 ∧ ((gI w3 169 0) = u2 → (u2 ≠ 0 → pX 355 3566 [some (.ref pSC), some (.ref 0), some (.ref 169), some (.ref 180), some (.ref 181), some (iv x5), some (iv u2), some (iv u4), o8, o9] [] w3 Q) ∧ (u2 = 0 → ((lCmp (gL w3 180 0) (i2L u4)) = 0 → pX 355 3566 [some (.ref pSC), some (.ref 0), some (.ref 169), some (.ref 180), some (.ref 181), some (iv x5), some (iv u2), some (iv u4), o8, o9] [] w3 Q) ∧ ((lCmp (gL w3 180 0) (i2L u4)) ≠ 0 → Q (.inl (some (iv 0))) w3))) ∧ ((gI w3 169 0) ≠ u2 → Q (.inl (some (iv 0))) w3))) Q)) : pX 355 2812 [some (.ref pSC), some (.ref 0), some (.ref 169), some (.ref 180), some (.ref 181), some (iv x5), o6, o7, o8, o9] [] w Q :=
  w_f b355 d355_2812 rfl rfl rfl <| w_f b355 d355_2813 rfl rfl rfl <| w_f b355 d355_2814 rfl rfl rfl <| w_f b355 d355_2816 rfl rfl rfl <| w_f b355 d355_2817 rfl (pf_iadd x5 1) rfl <| w_scl b355 d355_2818 rfl h.1 (bdix (n := sn) h.2.1 hsn) h.2.1 <| w_f b355 d355_2819 rfl rfl rfl <| w_f b355 d355_2820 rfl rfl rfl <| w_f b355 d355_2822 rfl rfl rfl <| w_f b355 d355_2823 rfl (pf_iadd x5 2) rfl <| w_scl b355 d355_2824 rfl h.2.2.1 (bdix (n := sn) h.2.2.2.1 hsn) h.2.2.2.1 <| w_f b355 d355_2825 rfl rfl rfl <| w_c b355 d355_2826 rfl (pcl_s4 (n := 4) rfl rfl rfl (by decide +kernel) rfl rfl) rfl _ (hK_X rfl (hK_I fun u2 w1 hbu2 hkw1 => w_f b355 d355_2829 rfl rfl rfl <| w_f b355 d355_2831 rfl rfl rfl <| w_f b355 d355_2832 rfl rfl rfl <| w_f b355 d355_2833 rfl rfl rfl <| w_f b355 d355_2835 rfl rfl rfl <| w_f b355 d355_2836 rfl (pf_iadd x5 1) rfl <| w_scl b355 d355_2837 rfl hkw1.2.1 (bdix (n := sn) hkw1.2.2.1 hsn) hkw1.2.2.1 <| w_f b355 d355_2838 rfl rfl rfl <| w_f b355 d355_2839 rfl rfl rfl <| w_f b355 d355_2841 rfl rfl rfl <| w_f b355 d355_2842 rfl (pf_iadd x5 2) rfl <| w_scl b355 d355_2843 rfl hkw1.2.2.2.1 (bdix (n := sn) hkw1.2.2.2.2.1 hsn) hkw1.2.2.2.2.1 <| w_c b355 d355_2844 rfl (pcl_v (n := 2) rfl rfl rfl (by decide +kernel) (sh_isOb hkw1.1 (tlt 169 rfl) tbC_169) rfl rfl) rfl _ (hK_I fun u4 w3 hbu4 hkw3 => w_f b355 d355_2847 rfl rfl rfl <| w_f b355 d355_2849 rfl rfl rfl <| w_cc b355 d355_2850 rfl (pcl_v (n := 0) rfl rfl rfl (by decide +kernel) (sh_isOb hkw3.1 (tlt 169 rfl) tbC_169) rfl rfl) rfl <| c217 hkw3.1 <| w_f b355 d355_2853 rfl rfl rfl <| w_iceq b355 d355_2855 rfl rfl (by decide +kernel) (bd_gI _ _ _) hbu2 (fun c5 => w_f b355 d355_2860 rfl rfl rfl <| w_ifne b355 d355_2862 rfl rfl (by decide +kernel) hbu2 (fun c6 => w_j b355 d355_2877 rfl (by decide +kernel) <| ((hkw3.2.1 c5).1 c6)) (fun c6 => w_f b355 d355_2865 rfl rfl rfl <| w_f b355 d355_2866 rfl rfl rfl <| w_lal b355 d355_2867 rfl hkw3.1 (tlt 180 rfl) tbC_180 (bdix (n := 1) ⟨by decide, by decide⟩ rfl) ⟨by decide, by decide⟩ <| w_f b355 d355_2868 rfl rfl rfl <| w_f b355 d355_2870 rfl rfl rfl <| w_f b355 d355_2871 rfl (pf_lcmp _ _) rfl <| w_ifeq b355 d355_2872 rfl rfl (by decide +kernel) (bd_toInt _) (fun c7 => w_j b355 d355_2877 rfl (by decide +kernel) <| (((hkw3.2.1 c5).2 c6).1 c7)) (fun c7 => w_f b355 d355_2875 rfl rfl rfl <| w_rz b355 d355_2876 r355 (by decide) (((hkw3.2.1 c5).2 c6).2 c7)))) (fun c5 => w_f b355 d355_2858 rfl rfl rfl <| w_rz b355 d355_2859 r355 (by decide) (hkw3.2.2 c5))) hkw1.2.2.2.2.2)) h.2.2.2.2
theorem v355_2880 {w : PW} {Q : PO → PW → Prop} {sn : Nat} {sf : Nat → Int32} {x5 : Int} {o6 : Option Value} {o7 : Option Value} {o8 : Option Value} {o9 : Option Value} (hs : Sh w) (hsn : Nat.blt sn 2147483648 = true) (hx5 : bd x5) (ho9 : pc2 o9 = false) (h : (Sc w sn sf) ∧ (0 ≤ (x5 + 1) ∧ (x5 + 1) < sn) ∧ pC 194 [.ref 0, iv ((sf (x5 + 1).toNat).toInt), .ref 180] w (kX (kI fun u2 w1 => Sh w1 ∧ (Sc w1 sn sf) ∧ (0 ≤ (x5 + 1) ∧ (x5 + 1) < sn) ∧ pC 340 [.ref 169, iv ((sf (x5 + 1).toNat).toInt)] w1 (kI fun u4 w3 => Sh w3 ∧ ((gI w3 169 0) = u2 → (u2 ≠ 0 → pX 355 3566 [some (.ref pSC), some (.ref 0), some (.ref 169), some (.ref 180), some (.ref 181), some (iv x5), some (iv u2), some (iv u4), o8, o9] [] w3 Q) ∧ (u2 = 0 → ((lCmp (gL w3 180 0) (i2L u4)) = 0 → pX 355 3566 [some (.ref pSC), some (.ref 0), some (.ref 169), some (.ref 180), some (.ref 181), some (iv x5), some (iv u2), some (iv u4), o8, o9] [] w3 Q) ∧ ((lCmp (gL w3 180 0) (i2L u4)) ≠ 0 → Q (.inl (some (iv 0))) w3))) ∧ ((gI w3 169 0) ≠ u2 → Q (.inl (some (iv 0))) w3))) Q)) : pX 355 2880 [some (.ref pSC), some (.ref 0), some (.ref 169), some (.ref 180), some (.ref 181), some (iv x5), o6, o7, o8, o9] [] w Q :=
  w_f b355 d355_2880 rfl rfl rfl <| w_f b355 d355_2881 rfl rfl rfl <| w_f b355 d355_2882 rfl rfl rfl <| w_f b355 d355_2884 rfl rfl rfl <| w_f b355 d355_2885 rfl (pf_iadd x5 1) rfl <| w_scl b355 d355_2886 rfl h.1 (bdix (n := sn) h.2.1 hsn) h.2.1 <| w_f b355 d355_2887 rfl rfl rfl <| w_c b355 d355_2888 rfl (pcl_s4 (n := 3) rfl rfl rfl (by decide +kernel) rfl rfl) rfl _ (hK_X rfl (hK_I fun u2 w1 hbu2 hkw1 => w_f b355 d355_2891 rfl rfl rfl <| w_f b355 d355_2893 rfl rfl rfl <| w_f b355 d355_2894 rfl rfl rfl <| w_f b355 d355_2895 rfl rfl rfl <| w_f b355 d355_2897 rfl rfl rfl <| w_f b355 d355_2898 rfl (pf_iadd x5 1) rfl <| w_scl b355 d355_2899 rfl hkw1.2.1 (bdix (n := sn) hkw1.2.2.1 hsn) hkw1.2.2.1 <| w_c b355 d355_2900 rfl (pcl_v (n := 1) rfl rfl rfl (by decide +kernel) (sh_isOb hkw1.1 (tlt 169 rfl) tbC_169) rfl rfl) rfl _ (hK_I fun u4 w3 hbu4 hkw3 => w_f b355 d355_2903 rfl rfl rfl <| w_f b355 d355_2905 rfl rfl rfl <| w_cc b355 d355_2906 rfl (pcl_v (n := 0) rfl rfl rfl (by decide +kernel) (sh_isOb hkw3.1 (tlt 169 rfl) tbC_169) rfl rfl) rfl <| c217 hkw3.1 <| w_f b355 d355_2909 rfl rfl rfl <| w_iceq b355 d355_2911 rfl rfl (by decide +kernel) (bd_gI _ _ _) hbu2 (fun c5 => w_f b355 d355_2916 rfl rfl rfl <| w_ifne b355 d355_2918 rfl rfl (by decide +kernel) hbu2 (fun c6 => w_j b355 d355_2933 rfl (by decide +kernel) <| ((hkw3.2.1 c5).1 c6)) (fun c6 => w_f b355 d355_2921 rfl rfl rfl <| w_f b355 d355_2922 rfl rfl rfl <| w_lal b355 d355_2923 rfl hkw3.1 (tlt 180 rfl) tbC_180 (bdix (n := 1) ⟨by decide, by decide⟩ rfl) ⟨by decide, by decide⟩ <| w_f b355 d355_2924 rfl rfl rfl <| w_f b355 d355_2926 rfl rfl rfl <| w_f b355 d355_2927 rfl (pf_lcmp _ _) rfl <| w_ifeq b355 d355_2928 rfl rfl (by decide +kernel) (bd_toInt _) (fun c7 => w_j b355 d355_2933 rfl (by decide +kernel) <| (((hkw3.2.1 c5).2 c6).1 c7)) (fun c7 => w_f b355 d355_2931 rfl rfl rfl <| w_rz b355 d355_2932 r355 (by decide) (((hkw3.2.1 c5).2 c6).2 c7)))) (fun c5 => w_f b355 d355_2914 rfl rfl rfl <| w_rz b355 d355_2915 r355 (by decide) (hkw3.2.2 c5))) hkw1.2.2.2)) h.2.2
theorem v355_2936 {w : PW} {Q : PO → PW → Prop} {sn : Nat} {sf : Nat → Int32} {x5 : Int} {o6 : Option Value} {o7 : Option Value} {o8 : Option Value} {o9 : Option Value} (hs : Sh w) (hsn : Nat.blt sn 2147483648 = true) (hx5 : bd x5) (ho9 : pc2 o9 = false) (h : (Sc w sn sf) ∧ (0 ≤ (x5 + 1) ∧ (x5 + 1) < sn) ∧ pC 196 [.ref 0, iv ((sf (x5 + 1).toNat).toInt), .ref 180] w (kX (kI fun u2 w1 => Sh w1 ∧ (Sc w1 sn sf) ∧ (0 ≤ (x5 + 1) ∧ (x5 + 1) < sn) ∧ pC 341 [.ref 169, iv ((sf (x5 + 1).toNat).toInt)] w1 (kI fun u4 w3 => Sh w3 ∧ ((gI w3 169 0) = u2 → (u2 ≠ 0 → pX 355 3566 [some (.ref pSC), some (.ref 0), some (.ref 169), some (.ref 180), some (.ref 181), some (iv x5), some (iv u2), some (iv u4), o8, o9] [] w3 Q) ∧ (u2 = 0 → ((lCmp (gL w3 180 0) (i2L u4)) = 0 → pX 355 3566 [some (.ref pSC), some (.ref 0), some (.ref 169), some (.ref 180), some (.ref 181), some (iv x5), some (iv u2), some (iv u4), o8, o9] [] w3 Q) ∧ ((lCmp (gL w3 180 0) (i2L u4)) ≠ 0 → Q (.inl (some (iv 0))) w3))) ∧ ((gI w3 169 0) ≠ u2 → Q (.inl (some (iv 0))) w3))) Q)) : pX 355 2936 [some (.ref pSC), some (.ref 0), some (.ref 169), some (.ref 180), some (.ref 181), some (iv x5), o6, o7, o8, o9] [] w Q :=
  w_f b355 d355_2936 rfl rfl rfl <| w_f b355 d355_2937 rfl rfl rfl <| w_f b355 d355_2938 rfl rfl rfl <| w_f b355 d355_2940 rfl rfl rfl <| w_f b355 d355_2941 rfl (pf_iadd x5 1) rfl <| w_scl b355 d355_2942 rfl h.1 (bdix (n := sn) h.2.1 hsn) h.2.1 <| w_f b355 d355_2943 rfl rfl rfl <| w_c b355 d355_2944 rfl (pcl_s4 (n := 3) rfl rfl rfl (by decide +kernel) rfl rfl) rfl _ (hK_X rfl (hK_I fun u2 w1 hbu2 hkw1 => w_f b355 d355_2947 rfl rfl rfl <| w_f b355 d355_2949 rfl rfl rfl <| w_f b355 d355_2950 rfl rfl rfl <| w_f b355 d355_2951 rfl rfl rfl <| w_f b355 d355_2953 rfl rfl rfl <| w_f b355 d355_2954 rfl (pf_iadd x5 1) rfl <| w_scl b355 d355_2955 rfl hkw1.2.1 (bdix (n := sn) hkw1.2.2.1 hsn) hkw1.2.2.1 <| w_c b355 d355_2956 rfl (pcl_v (n := 1) rfl rfl rfl (by decide +kernel) (sh_isOb hkw1.1 (tlt 169 rfl) tbC_169) rfl rfl) rfl _ (hK_I fun u4 w3 hbu4 hkw3 => w_f b355 d355_2959 rfl rfl rfl <| w_f b355 d355_2961 rfl rfl rfl <| w_cc b355 d355_2962 rfl (pcl_v (n := 0) rfl rfl rfl (by decide +kernel) (sh_isOb hkw3.1 (tlt 169 rfl) tbC_169) rfl rfl) rfl <| c217 hkw3.1 <| w_f b355 d355_2965 rfl rfl rfl <| w_iceq b355 d355_2967 rfl rfl (by decide +kernel) (bd_gI _ _ _) hbu2 (fun c5 => w_f b355 d355_2972 rfl rfl rfl <| w_ifne b355 d355_2974 rfl rfl (by decide +kernel) hbu2 (fun c6 => w_j b355 d355_2989 rfl (by decide +kernel) <| ((hkw3.2.1 c5).1 c6)) (fun c6 => w_f b355 d355_2977 rfl rfl rfl <| w_f b355 d355_2978 rfl rfl rfl <| w_lal b355 d355_2979 rfl hkw3.1 (tlt 180 rfl) tbC_180 (bdix (n := 1) ⟨by decide, by decide⟩ rfl) ⟨by decide, by decide⟩ <| w_f b355 d355_2980 rfl rfl rfl <| w_f b355 d355_2982 rfl rfl rfl <| w_f b355 d355_2983 rfl (pf_lcmp _ _) rfl <| w_ifeq b355 d355_2984 rfl rfl (by decide +kernel) (bd_toInt _) (fun c7 => w_j b355 d355_2989 rfl (by decide +kernel) <| (((hkw3.2.1 c5).2 c6).1 c7)) (fun c7 => w_f b355 d355_2987 rfl rfl rfl <| w_rz b355 d355_2988 r355 (by decide) (((hkw3.2.1 c5).2 c6).2 c7)))) (fun c5 => w_f b355 d355_2970 rfl rfl rfl <| w_rz b355 d355_2971 r355 (by decide) (hkw3.2.2 c5))) hkw1.2.2.2)) h.2.2
theorem v355_2992 {w : PW} {Q : PO → PW → Prop} {sn : Nat} {sf : Nat → Int32} {x5 : Int} {o6 : Option Value} {o7 : Option Value} {o8 : Option Value} {o9 : Option Value} (hs : Sh w) (hsn : Nat.blt sn 2147483648 = true) (hx5 : bd x5) (ho9 : pc2 o9 = false) (h : (Sc w sn sf) ∧ (0 ≤ (x5 + 1) ∧ (x5 + 1) < sn) ∧ pC 198 [.ref 0, iv ((sf (x5 + 1).toNat).toInt), .ref 180] w (kX (kI fun u2 w1 => Sh w1 ∧ (Sc w1 sn sf) ∧ (0 ≤ (x5 + 1) ∧ (x5 + 1) < sn) ∧ pC 342 [.ref 169, iv ((sf (x5 + 1).toNat).toInt)] w1 (kI fun u4 w3 => Sh w3 ∧ ((gI w3 169 0) = u2 → (u2 ≠ 0 → pX 355 3566 [some (.ref pSC), some (.ref 0), some (.ref 169), some (.ref 180), some (.ref 181), some (iv x5), some (iv u2), some (iv u4), o8, o9] [] w3 Q) ∧ (u2 = 0 → ((lCmp (gL w3 180 0) (i2L u4)) = 0 → pX 355 3566 [some (.ref pSC), some (.ref 0), some (.ref 169), some (.ref 180), some (.ref 181), some (iv x5), some (iv u2), some (iv u4), o8, o9] [] w3 Q) ∧ ((lCmp (gL w3 180 0) (i2L u4)) ≠ 0 → Q (.inl (some (iv 0))) w3))) ∧ ((gI w3 169 0) ≠ u2 → Q (.inl (some (iv 0))) w3))) Q)) : pX 355 2992 [some (.ref pSC), some (.ref 0), some (.ref 169), some (.ref 180), some (.ref 181), some (iv x5), o6, o7, o8, o9] [] w Q :=
  w_f b355 d355_2992 rfl rfl rfl <| w_f b355 d355_2993 rfl rfl rfl <| w_f b355 d355_2994 rfl rfl rfl <| w_f b355 d355_2996 rfl rfl rfl <| w_f b355 d355_2997 rfl (pf_iadd x5 1) rfl <| w_scl b355 d355_2998 rfl h.1 (bdix (n := sn) h.2.1 hsn) h.2.1 <| w_f b355 d355_2999 rfl rfl rfl <| w_c b355 d355_3000 rfl (pcl_s4 (n := 3) rfl rfl rfl (by decide +kernel) rfl rfl) rfl _ (hK_X rfl (hK_I fun u2 w1 hbu2 hkw1 => w_f b355 d355_3003 rfl rfl rfl <| w_f b355 d355_3005 rfl rfl rfl <| w_f b355 d355_3006 rfl rfl rfl <| w_f b355 d355_3007 rfl rfl rfl <| w_f b355 d355_3009 rfl rfl rfl <| w_f b355 d355_3010 rfl (pf_iadd x5 1) rfl <| w_scl b355 d355_3011 rfl hkw1.2.1 (bdix (n := sn) hkw1.2.2.1 hsn) hkw1.2.2.1 <| w_c b355 d355_3012 rfl (pcl_v (n := 1) rfl rfl rfl (by decide +kernel) (sh_isOb hkw1.1 (tlt 169 rfl) tbC_169) rfl rfl) rfl _ (hK_I fun u4 w3 hbu4 hkw3 => w_f b355 d355_3015 rfl rfl rfl <| w_f b355 d355_3017 rfl rfl rfl <| w_cc b355 d355_3018 rfl (pcl_v (n := 0) rfl rfl rfl (by decide +kernel) (sh_isOb hkw3.1 (tlt 169 rfl) tbC_169) rfl rfl) rfl <| c217 hkw3.1 <| w_f b355 d355_3021 rfl rfl rfl <| w_iceq b355 d355_3023 rfl rfl (by decide +kernel) (bd_gI _ _ _) hbu2 (fun c5 => w_f b355 d355_3028 rfl rfl rfl <| w_ifne b355 d355_3030 rfl rfl (by decide +kernel) hbu2 (fun c6 => w_j b355 d355_3045 rfl (by decide +kernel) <| ((hkw3.2.1 c5).1 c6)) (fun c6 => w_f b355 d355_3033 rfl rfl rfl <| w_f b355 d355_3034 rfl rfl rfl <| w_lal b355 d355_3035 rfl hkw3.1 (tlt 180 rfl) tbC_180 (bdix (n := 1) ⟨by decide, by decide⟩ rfl) ⟨by decide, by decide⟩ <| w_f b355 d355_3036 rfl rfl rfl <| w_f b355 d355_3038 rfl rfl rfl <| w_f b355 d355_3039 rfl (pf_lcmp _ _) rfl <| w_ifeq b355 d355_3040 rfl rfl (by decide +kernel) (bd_toInt _) (fun c7 => w_j b355 d355_3045 rfl (by decide +kernel) <| (((hkw3.2.1 c5).2 c6).1 c7)) (fun c7 => w_f b355 d355_3043 rfl rfl rfl <| w_rz b355 d355_3044 r355 (by decide) (((hkw3.2.1 c5).2 c6).2 c7)))) (fun c5 => w_f b355 d355_3026 rfl rfl rfl <| w_rz b355 d355_3027 r355 (by decide) (hkw3.2.2 c5))) hkw1.2.2.2)) h.2.2
theorem v355_3048 {w : PW} {Q : PO → PW → Prop} {sn : Nat} {sf : Nat → Int32} {x5 : Int} {o6 : Option Value} {o7 : Option Value} {o8 : Option Value} {o9 : Option Value} (hs : Sh w) (hsn : Nat.blt sn 2147483648 = true) (hx5 : bd x5) (ho9 : pc2 o9 = false) (h : (Sc w sn sf) ∧ (0 ≤ (x5 + 1) ∧ (x5 + 1) < sn) ∧ pC 200 [.ref 0, iv ((sf (x5 + 1).toNat).toInt), .ref 180] w (kX (kI fun u2 w1 => Sh w1 ∧ (Sc w1 sn sf) ∧ (0 ≤ (x5 + 1) ∧ (x5 + 1) < sn) ∧ pC 343 [.ref 169, iv ((sf (x5 + 1).toNat).toInt)] w1 (kI fun u4 w3 => Sh w3 ∧ ((gI w3 169 0) = u2 → (u2 ≠ 0 → pX 355 3566 [some (.ref pSC), some (.ref 0), some (.ref 169), some (.ref 180), some (.ref 181), some (iv x5), some (iv u2), some (iv u4), o8, o9] [] w3 Q) ∧ (u2 = 0 → ((lCmp (gL w3 180 0) (i2L u4)) = 0 → pX 355 3566 [some (.ref pSC), some (.ref 0), some (.ref 169), some (.ref 180), some (.ref 181), some (iv x5), some (iv u2), some (iv u4), o8, o9] [] w3 Q) ∧ ((lCmp (gL w3 180 0) (i2L u4)) ≠ 0 → Q (.inl (some (iv 0))) w3))) ∧ ((gI w3 169 0) ≠ u2 → Q (.inl (some (iv 0))) w3))) Q)) : pX 355 3048 [some (.ref pSC), some (.ref 0), some (.ref 169), some (.ref 180), some (.ref 181), some (iv x5), o6, o7, o8, o9] [] w Q :=
  w_f b355 d355_3048 rfl rfl rfl <| w_f b355 d355_3049 rfl rfl rfl <| w_f b355 d355_3050 rfl rfl rfl <| w_f b355 d355_3052 rfl rfl rfl <| w_f b355 d355_3053 rfl (pf_iadd x5 1) rfl <| w_scl b355 d355_3054 rfl h.1 (bdix (n := sn) h.2.1 hsn) h.2.1 <| w_f b355 d355_3055 rfl rfl rfl <| w_c b355 d355_3056 rfl (pcl_s4 (n := 3) rfl rfl rfl (by decide +kernel) rfl rfl) rfl _ (hK_X rfl (hK_I fun u2 w1 hbu2 hkw1 => w_f b355 d355_3059 rfl rfl rfl <| w_f b355 d355_3061 rfl rfl rfl <| w_f b355 d355_3062 rfl rfl rfl <| w_f b355 d355_3063 rfl rfl rfl <| w_f b355 d355_3065 rfl rfl rfl <| w_f b355 d355_3066 rfl (pf_iadd x5 1) rfl <| w_scl b355 d355_3067 rfl hkw1.2.1 (bdix (n := sn) hkw1.2.2.1 hsn) hkw1.2.2.1 <| w_c b355 d355_3068 rfl (pcl_v (n := 1) rfl rfl rfl (by decide +kernel) (sh_isOb hkw1.1 (tlt 169 rfl) tbC_169) rfl rfl) rfl _ (hK_I fun u4 w3 hbu4 hkw3 => w_f b355 d355_3071 rfl rfl rfl <| w_f b355 d355_3073 rfl rfl rfl <| w_cc b355 d355_3074 rfl (pcl_v (n := 0) rfl rfl rfl (by decide +kernel) (sh_isOb hkw3.1 (tlt 169 rfl) tbC_169) rfl rfl) rfl <| c217 hkw3.1 <| w_f b355 d355_3077 rfl rfl rfl <| w_iceq b355 d355_3079 rfl rfl (by decide +kernel) (bd_gI _ _ _) hbu2 (fun c5 => w_f b355 d355_3084 rfl rfl rfl <| w_ifne b355 d355_3086 rfl rfl (by decide +kernel) hbu2 (fun c6 => w_j b355 d355_3101 rfl (by decide +kernel) <| ((hkw3.2.1 c5).1 c6)) (fun c6 => w_f b355 d355_3089 rfl rfl rfl <| w_f b355 d355_3090 rfl rfl rfl <| w_lal b355 d355_3091 rfl hkw3.1 (tlt 180 rfl) tbC_180 (bdix (n := 1) ⟨by decide, by decide⟩ rfl) ⟨by decide, by decide⟩ <| w_f b355 d355_3092 rfl rfl rfl <| w_f b355 d355_3094 rfl rfl rfl <| w_f b355 d355_3095 rfl (pf_lcmp _ _) rfl <| w_ifeq b355 d355_3096 rfl rfl (by decide +kernel) (bd_toInt _) (fun c7 => w_j b355 d355_3101 rfl (by decide +kernel) <| (((hkw3.2.1 c5).2 c6).1 c7)) (fun c7 => w_f b355 d355_3099 rfl rfl rfl <| w_rz b355 d355_3100 r355 (by decide) (((hkw3.2.1 c5).2 c6).2 c7)))) (fun c5 => w_f b355 d355_3082 rfl rfl rfl <| w_rz b355 d355_3083 r355 (by decide) (hkw3.2.2 c5))) hkw1.2.2.2)) h.2.2
theorem v355_3104 {w : PW} {Q : PO → PW → Prop} {sn : Nat} {sf : Nat → Int32} {x5 : Int} {o6 : Option Value} {o7 : Option Value} {o8 : Option Value} {o9 : Option Value} (hs : Sh w) (hsn : Nat.blt sn 2147483648 = true) (hx5 : bd x5) (ho9 : pc2 o9 = false) (h : (Sc w sn sf) ∧ (0 ≤ (x5 + 1) ∧ (x5 + 1) < sn) ∧ pC 202 [.ref 0, iv ((sf (x5 + 1).toNat).toInt), .ref 180] w (kX (kI fun u2 w1 => Sh w1 ∧ (Sc w1 sn sf) ∧ (0 ≤ (x5 + 1) ∧ (x5 + 1) < sn) ∧ pC 344 [.ref 169, iv ((sf (x5 + 1).toNat).toInt)] w1 (kI fun u4 w3 => Sh w3 ∧ ((gI w3 169 0) = u2 → (u2 ≠ 0 → pX 355 3566 [some (.ref pSC), some (.ref 0), some (.ref 169), some (.ref 180), some (.ref 181), some (iv x5), some (iv u2), some (iv u4), o8, o9] [] w3 Q) ∧ (u2 = 0 → ((lCmp (gL w3 180 0) (i2L u4)) = 0 → pX 355 3566 [some (.ref pSC), some (.ref 0), some (.ref 169), some (.ref 180), some (.ref 181), some (iv x5), some (iv u2), some (iv u4), o8, o9] [] w3 Q) ∧ ((lCmp (gL w3 180 0) (i2L u4)) ≠ 0 → Q (.inl (some (iv 0))) w3))) ∧ ((gI w3 169 0) ≠ u2 → Q (.inl (some (iv 0))) w3))) Q)) : pX 355 3104 [some (.ref pSC), some (.ref 0), some (.ref 169), some (.ref 180), some (.ref 181), some (iv x5), o6, o7, o8, o9] [] w Q :=
  w_f b355 d355_3104 rfl rfl rfl <| w_f b355 d355_3105 rfl rfl rfl <| w_f b355 d355_3106 rfl rfl rfl <| w_f b355 d355_3108 rfl rfl rfl <| w_f b355 d355_3109 rfl (pf_iadd x5 1) rfl <| w_scl b355 d355_3110 rfl h.1 (bdix (n := sn) h.2.1 hsn) h.2.1 <| w_f b355 d355_3111 rfl rfl rfl <| w_c b355 d355_3112 rfl (pcl_s4 (n := 3) rfl rfl rfl (by decide +kernel) rfl rfl) rfl _ (hK_X rfl (hK_I fun u2 w1 hbu2 hkw1 => w_f b355 d355_3115 rfl rfl rfl <| w_f b355 d355_3117 rfl rfl rfl <| w_f b355 d355_3118 rfl rfl rfl <| w_f b355 d355_3119 rfl rfl rfl <| w_f b355 d355_3121 rfl rfl rfl <| w_f b355 d355_3122 rfl (pf_iadd x5 1) rfl <| w_scl b355 d355_3123 rfl hkw1.2.1 (bdix (n := sn) hkw1.2.2.1 hsn) hkw1.2.2.1 <| w_c b355 d355_3124 rfl (pcl_v (n := 1) rfl rfl rfl (by decide +kernel) (sh_isOb hkw1.1 (tlt 169 rfl) tbC_169) rfl rfl) rfl _ (hK_I fun u4 w3 hbu4 hkw3 => w_f b355 d355_3127 rfl rfl rfl <| w_f b355 d355_3129 rfl rfl rfl <| w_cc b355 d355_3130 rfl (pcl_v (n := 0) rfl rfl rfl (by decide +kernel) (sh_isOb hkw3.1 (tlt 169 rfl) tbC_169) rfl rfl) rfl <| c217 hkw3.1 <| w_f b355 d355_3133 rfl rfl rfl <| w_iceq b355 d355_3135 rfl rfl (by decide +kernel) (bd_gI _ _ _) hbu2 (fun c5 => w_f b355 d355_3140 rfl rfl rfl <| w_ifne b355 d355_3142 rfl rfl (by decide +kernel) hbu2 (fun c6 => w_j b355 d355_3157 rfl (by decide +kernel) <| ((hkw3.2.1 c5).1 c6)) (fun c6 => w_f b355 d355_3145 rfl rfl rfl <| w_f b355 d355_3146 rfl rfl rfl <| w_lal b355 d355_3147 rfl hkw3.1 (tlt 180 rfl) tbC_180 (bdix (n := 1) ⟨by decide, by decide⟩ rfl) ⟨by decide, by decide⟩ <| w_f b355 d355_3148 rfl rfl rfl <| w_f b355 d355_3150 rfl rfl rfl <| w_f b355 d355_3151 rfl (pf_lcmp _ _) rfl <| w_ifeq b355 d355_3152 rfl rfl (by decide +kernel) (bd_toInt _) (fun c7 => w_j b355 d355_3157 rfl (by decide +kernel) <| (((hkw3.2.1 c5).2 c6).1 c7)) (fun c7 => w_f b355 d355_3155 rfl rfl rfl <| w_rz b355 d355_3156 r355 (by decide) (((hkw3.2.1 c5).2 c6).2 c7)))) (fun c5 => w_f b355 d355_3138 rfl rfl rfl <| w_rz b355 d355_3139 r355 (by decide) (hkw3.2.2 c5))) hkw1.2.2.2)) h.2.2
theorem v355_3160 {w : PW} {Q : PO → PW → Prop} {sn : Nat} {sf : Nat → Int32} {x5 : Int} {o6 : Option Value} {o7 : Option Value} {o8 : Option Value} {o9 : Option Value} (hs : Sh w) (hsn : Nat.blt sn 2147483648 = true) (hx5 : bd x5) (ho9 : pc2 o9 = false) (h : (Sc w sn sf) ∧ (0 ≤ (x5 + 1) ∧ (x5 + 1) < sn) ∧ pC 204 [.ref 0, iv ((sf (x5 + 1).toNat).toInt), .ref 181] w (kX (kI fun u2 w1 => Sh w1 ∧ (Sc w1 sn sf) ∧ (0 ≤ (x5 + 1) ∧ (x5 + 1) < sn) ∧ pC 345 [.ref 169, iv ((sf (x5 + 1).toNat).toInt)] w1 (kD fun u4 w3 => Sh w3 ∧ ((gI w3 169 0) = u2 → (u2 ≠ 0 → pX 355 3566 [some (.ref pSC), some (.ref 0), some (.ref 169), some (.ref 180), some (.ref 181), some (iv x5), some (iv u2), some (.double u4), none, o9] [] w3 Q) ∧ (u2 = 0 → (((Op.cmpValue (FP.dcmp (gD w3 181 0) u4) .l).toInt) = 0 → pX 355 3566 [some (.ref pSC), some (.ref 0), some (.ref 169), some (.ref 180), some (.ref 181), some (iv x5), some (iv u2), some (.double u4), none, o9] [] w3 Q) ∧ (((Op.cmpValue (FP.dcmp (gD w3 181 0) u4) .l).toInt) ≠ 0 → (((Op.cmpValue (FP.dcmp (gD w3 181 0) (gD w3 181 0)) .l).toInt) = 0 → Q (.inl (some (iv 0))) w3) ∧ (((Op.cmpValue (FP.dcmp (gD w3 181 0) (gD w3 181 0)) .l).toInt) ≠ 0 → (((Op.cmpValue (FP.dcmp u4 u4) .l).toInt) ≠ 0 → pX 355 3566 [some (.ref pSC), some (.ref 0), some (.ref 169), some (.ref 180), some (.ref 181), some (iv x5), some (iv u2), some (.double u4), none, o9] [] w3 Q) ∧ (((Op.cmpValue (FP.dcmp u4 u4) .l).toInt) = 0 → Q (.inl (some (iv 0))) w3))))) ∧ ((gI w3 169 0) ≠ u2 → Q (.inl (some (iv 0))) w3))) Q)) : pX 355 3160 [some (.ref pSC), some (.ref 0), some (.ref 169), some (.ref 180), some (.ref 181), some (iv x5), o6, o7, o8, o9] [] w Q :=
  w_f b355 d355_3160 rfl rfl rfl <| w_f b355 d355_3161 rfl rfl rfl <| w_f b355 d355_3162 rfl rfl rfl <| w_f b355 d355_3164 rfl rfl rfl <| w_f b355 d355_3165 rfl (pf_iadd x5 1) rfl <| w_scl b355 d355_3166 rfl h.1 (bdix (n := sn) h.2.1 hsn) h.2.1 <| w_f b355 d355_3167 rfl rfl rfl <| w_c b355 d355_3169 rfl (pcl_s4 (n := 3) rfl rfl rfl (by decide +kernel) rfl rfl) rfl _ (hK_X rfl (hK_I fun u2 w1 hbu2 hkw1 => w_f b355 d355_3172 rfl rfl rfl <| w_f b355 d355_3174 rfl rfl rfl <| w_f b355 d355_3175 rfl rfl rfl <| w_f b355 d355_3176 rfl rfl rfl <| w_f b355 d355_3178 rfl rfl rfl <| w_f b355 d355_3179 rfl (pf_iadd x5 1) rfl <| w_scl b355 d355_3180 rfl hkw1.2.1 (bdix (n := sn) hkw1.2.2.1 hsn) hkw1.2.2.1 <| w_c b355 d355_3181 rfl (pcl_v (n := 1) rfl rfl rfl (by decide +kernel) (sh_isOb hkw1.1 (tlt 169 rfl) tbC_169) rfl rfl) rfl _ (hK_D fun u4 w3 hkw3 => w_f b355 d355_3184 rfl rfl rfl <| w_f b355 d355_3186 rfl rfl rfl <| w_cc b355 d355_3187 rfl (pcl_v (n := 0) rfl rfl rfl (by decide +kernel) (sh_isOb hkw3.1 (tlt 169 rfl) tbC_169) rfl rfl) rfl <| c217 hkw3.1 <| w_f b355 d355_3190 rfl rfl rfl <| w_iceq b355 d355_3192 rfl rfl (by decide +kernel) (bd_gI _ _ _) hbu2 (fun c5 => w_f b355 d355_3197 rfl rfl rfl <| w_ifne b355 d355_3199 rfl rfl (by decide +kernel) hbu2 (fun c6 => w_j b355 d355_3234 rfl (by decide +kernel) <| ((hkw3.2.1 c5).1 c6)) (fun c6 => w_f b355 d355_3202 rfl rfl rfl <| w_f b355 d355_3204 rfl rfl rfl <| w_dal b355 d355_3205 rfl hkw3.1 (tlt 181 rfl) tbC_181 (bdix (n := 1) ⟨by decide, by decide⟩ rfl) ⟨by decide, by decide⟩ <| w_f b355 d355_3206 rfl rfl rfl <| w_f b355 d355_3208 rfl (pf_dcmp _ _) rfl <| w_ifeq b355 d355_3209 rfl rfl (by decide +kernel) (bd_toInt _) (fun c7 => w_j b355 d355_3234 rfl (by decide +kernel) <| (((hkw3.2.1 c5).2 c6).1 c7)) (fun c7 => w_f b355 d355_3212 rfl rfl rfl <| w_f b355 d355_3214 rfl rfl rfl <| w_dal b355 d355_3215 rfl hkw3.1 (tlt 181 rfl) tbC_181 (bdix (n := 1) ⟨by decide, by decide⟩ rfl) ⟨by decide, by decide⟩ <| w_f b355 d355_3216 rfl rfl rfl <| w_f b355 d355_3218 rfl rfl rfl <| w_dal b355 d355_3219 rfl hkw3.1 (tlt 181 rfl) tbC_181 (bdix (n := 1) ⟨by decide, by decide⟩ rfl) ⟨by decide, by decide⟩ <| w_f b355 d355_3220 rfl (pf_dcmp _ _) rfl <| w_ifeq b355 d355_3221 rfl rfl (by decide +kernel) (bd_toInt _) (fun c8 => w_f b355 d355_3232 rfl rfl rfl <| w_rz b355 d355_3233 r355 (by decide) ((((hkw3.2.1 c5).2 c6).2 c7).1 c8)) (fun c8 => w_f b355 d355_3224 rfl rfl rfl <| w_f b355 d355_3226 rfl rfl rfl <| w_f b355 d355_3228 rfl (pf_dcmp _ _) rfl <| w_ifne b355 d355_3229 rfl rfl (by decide +kernel) (bd_toInt _) (fun c9 => w_j b355 d355_3234 rfl (by decide +kernel) <| (((((hkw3.2.1 c5).2 c6).2 c7).2 c8).1 c9)) (fun c9 => w_f b355 d355_3232 rfl rfl rfl <| w_rz b355 d355_3233 r355 (by decide) (((((hkw3.2.1 c5).2 c6).2 c7).2 c8).2 c9)))))) (fun c5 => w_f b355 d355_3195 rfl rfl rfl <| w_rz b355 d355_3196 r355 (by decide) (hkw3.2.2 c5))) hkw1.2.2.2)) h.2.2
theorem v355_3237 {w : PW} {Q : PO → PW → Prop} {sn : Nat} {sf : Nat → Int32} {x5 : Int} {o6 : Option Value} {o7 : Option Value} {o8 : Option Value} {o9 : Option Value} (hs : Sh w) (hsn : Nat.blt sn 2147483648 = true) (hx5 : bd x5) (ho9 : pc2 o9 = false) (h : pC 53 [.ref 0] w (kFl fun u2 w1 => Sh w1 ∧ ((FP.f2d u2) &&& 0x7fffffffffffffff ≤ 0x7ff0000000000000) ∧ pC 346 [.ref 169] w1 (kFl fun u4 w3 => Sh w3 ∧ ((FP.f2d u4) &&& 0x7fffffffffffffff ≤ 0x7ff0000000000000) ∧ (((Op.cmpValue (FP.dcmp (FP.f2d u2) (FP.f2d u4)) .l).toInt) = 0 → pX 355 3566 [some (.ref pSC), some (.ref 0), some (.ref 169), some (.ref 180), some (.ref 181), some (iv x5), some (.double (FP.f2d u2)), none, some (.double (FP.f2d u4)), none] [] w3 Q) ∧ (((Op.cmpValue (FP.dcmp (FP.f2d u2) (FP.f2d u4)) .l).toInt) ≠ 0 → (((Op.cmpValue (FP.dcmp (FP.f2d u2) (FP.f2d u2)) .l).toInt) = 0 → Q (.inl (some (iv 0))) w3) ∧ (((Op.cmpValue (FP.dcmp (FP.f2d u2) (FP.f2d u2)) .l).toInt) ≠ 0 → (((Op.cmpValue (FP.dcmp (FP.f2d u4) (FP.f2d u4)) .l).toInt) ≠ 0 → pX 355 3566 [some (.ref pSC), some (.ref 0), some (.ref 169), some (.ref 180), some (.ref 181), some (iv x5), some (.double (FP.f2d u2)), none, some (.double (FP.f2d u4)), none] [] w3 Q) ∧ (((Op.cmpValue (FP.dcmp (FP.f2d u4) (FP.f2d u4)) .l).toInt) = 0 → Q (.inl (some (iv 0))) w3)))))) : pX 355 3237 [some (.ref pSC), some (.ref 0), some (.ref 169), some (.ref 180), some (.ref 181), some (iv x5), o6, o7, o8, o9] [] w Q :=
  w_f b355 d355_3237 rfl rfl rfl <| w_c b355 d355_3238 rfl (pcl_v (n := 0) rfl rfl rfl (by decide +kernel) (sh_isOb hs (tlt 0 rfl) tbC_0) rfl rfl) rfl _ (hK_Fl fun u2 w1 hkw1 => w_f b355 d355_3241 rfl (pf_f2d hkw1.2.1) rfl <| w_f b355 d355_3242 rfl rfl rfl <| w_f b355 d355_3244 rfl rfl rfl <| w_c b355 d355_3245 rfl (pcl_v (n := 0) rfl rfl rfl (by decide +kernel) (sh_isOb hkw1.1 (tlt 169 rfl) tbC_169) rfl rfl) rfl _ (hK_Fl fun u4 w3 hkw3 => w_f b355 d355_3248 rfl (pf_f2d hkw3.2.1) rfl <| w_f b355 d355_3249 rfl rfl rfl <| w_f b355 d355_3251 rfl rfl rfl <| w_f b355 d355_3253 rfl rfl rfl <| w_f b355 d355_3255 rfl (pf_dcmp _ _) rfl <| w_ifeq b355 d355_3256 rfl rfl (by decide +kernel) (bd_toInt _) (fun c5 => w_j b355 d355_3277 rfl (by decide +kernel) <| (hkw3.2.2.1 c5)) (fun c5 => w_f b355 d355_3259 rfl rfl rfl <| w_f b355 d355_3261 rfl rfl rfl <| w_f b355 d355_3263 rfl (pf_dcmp _ _) rfl <| w_ifeq b355 d355_3264 rfl rfl (by decide +kernel) (bd_toInt _) (fun c6 => w_f b355 d355_3275 rfl rfl rfl <| w_rz b355 d355_3276 r355 (by decide) ((hkw3.2.2.2 c5).1 c6)) (fun c6 => w_f b355 d355_3267 rfl rfl rfl <| w_f b355 d355_3269 rfl rfl rfl <| w_f b355 d355_3271 rfl (pf_dcmp _ _) rfl <| w_ifne b355 d355_3272 rfl rfl (by decide +kernel) (bd_toInt _) (fun c7 => w_j b355 d355_3277 rfl (by decide +kernel) <| (((hkw3.2.2.2 c5).2 c6).1 c7)) (fun c7 => w_f b355 d355_3275 rfl rfl rfl <| w_rz b355 d355_3276 r355 (by decide) (((hkw3.2.2.2 c5).2 c6).2 c7))))) hkw1.2.2) h
theorem v355_3280 {w : PW} {Q : PO → PW → Prop} {sn : Nat} {sf : Nat → Int32} {x5 : Int} {o6 : Option Value} {o7 : Option Value} {o8 : Option Value} {o9 : Option Value} (hs : Sh w) (hsn : Nat.blt sn 2147483648 = true) (hx5 : bd x5) (ho9 : pc2 o9 = false) (h : (Sc w sn sf) ∧ (0 ≤ (x5 + 1) ∧ (x5 + 1) < sn) ∧ (Sc w sn sf) ∧ (0 ≤ (x5 + 2) ∧ (x5 + 2) < sn) ∧ pC 208 [.ref 0, iv ((sf (x5 + 1).toNat).toInt), iv ((sf (x5 + 2).toNat).toInt), .ref 180] w (kX (kI fun u2 w1 => Sh w1 ∧ (Sc w1 sn sf) ∧ (0 ≤ (x5 + 1) ∧ (x5 + 1) < sn) ∧ (Sc w1 sn sf) ∧ (0 ≤ (x5 + 2) ∧ (x5 + 2) < sn) ∧ pC 349 [.ref 169, iv ((sf (x5 + 1).toNat).toInt), iv ((sf (x5 + 2).toNat).toInt)] w1 (kI fun u4 w3 => Sh w3 ∧ ((gI w3 169 0) = u2 → (u2 ≠ 0 → pX 355 3566 [some (.ref pSC), some (.ref 0), some (.ref 169), some (.ref 180), some (.ref 181), some (iv x5), some (iv u2), some (iv u4), o8, o9] [] w3 Q) ∧ (u2 = 0 → ((lCmp (gL w3 180 0) (i2L u4)) = 0 → pX 355 3566 [some (.ref pSC), some (.ref 0), some (.ref 169), some (.ref 180), some (.ref 181), some (iv x5), some (iv u2), some (iv u4), o8, o9] [] w3 Q) ∧ ((lCmp (gL w3 180 0) (i2L u4)) ≠ 0 → Q (.inl (some (iv 0))) w3))) ∧ ((gI w3 169 0) ≠ u2 → Q (.inl (some (iv 0))) w3))) Q)) : pX 355 3280 [some (.ref pSC), some (.ref 0), some (.ref 169), some (.ref 180), some (.ref 181), some (iv x5), o6, o7, o8, o9] [] w Q :=
  w_f b355 d355_3280 rfl rfl rfl <| w_f b355 d355_3281 rfl rfl rfl <| w_f b355 d355_3282 rfl rfl rfl <| w_f b355 d355_3284 rfl rfl rfl <| w_f b355 d355_3285 rfl (pf_iadd x5 1) rfl <| w_scl b355 d355_3286 rfl h.1 (bdix (n := sn) h.2.1 hsn) h.2.1 <| w_f b355 d355_3287 rfl rfl rfl <| w_f b355 d355_3288 rfl rfl rfl <| w_f b355 d355_3290 rfl rfl rfl <| w_f b355 d355_3291 rfl (pf_iadd x5 2) rfl <| w_scl b355 d355_3292 rfl h.2.2.1 (bdix (n := sn) h.2.2.2.1 hsn) h.2.2.2.1 <| w_f b355 d355_3293 rfl rfl rfl <| w_c b355 d355_3294 rfl (pcl_s4 (n := 4) rfl rfl rfl (by decide +kernel) rfl rfl) rfl _ (hK_X rfl (hK_I fun u2 w1 hbu2 hkw1 => w_f b355 d355_3297 rfl rfl rfl <| w_f b355 d355_3299 rfl rfl rfl <| w_f b355 d355_3300 rfl rfl rfl <| w_f b355 d355_3301 rfl rfl rfl <| w_f b355 d355_3303 rfl rfl rfl <| w_f b355 d355_3304 rfl (pf_iadd x5 1) rfl <| w_scl b355 d355_3305 rfl hkw1.2.1 (bdix (n := sn) hkw1.2.2.1 hsn) hkw1.2.2.1 <| w_f b355 d355_3306 rfl rfl rfl <| w_f b355 d355_3307 rfl rfl rfl <| w_f b355 d355_3309 rfl rfl rfl <| w_f b355 d355_3310 rfl (pf_iadd x5 2) rfl <| w_scl b355 d355_3311 rfl hkw1.2.2.2.1 (bdix (n := sn) hkw1.2.2.2.2.1 hsn) hkw1.2.2.2.2.1 <| w_c b355 d355_3312 rfl (pcl_v (n := 2) rfl rfl rfl (by decide +kernel) (sh_isOb hkw1.1 (tlt 169 rfl) tbC_169) rfl rfl) rfl _ (hK_I fun u4 w3 hbu4 hkw3 => w_f b355 d355_3315 rfl rfl rfl <| w_f b355 d355_3317 rfl rfl rfl <| w_cc b355 d355_3318 rfl (pcl_v (n := 0) rfl rfl rfl (by decide +kernel) (sh_isOb hkw3.1 (tlt 169 rfl) tbC_169) rfl rfl) rfl <| c217 hkw3.1 <| w_f b355 d355_3321 rfl rfl rfl <| w_iceq b355 d355_3323 rfl rfl (by decide +kernel) (bd_gI _ _ _) hbu2 (fun c5 => w_f b355 d355_3328 rfl rfl rfl <| w_ifne b355 d355_3330 rfl rfl (by decide +kernel) hbu2 (fun c6 => w_j b355 d355_3345 rfl (by decide +kernel) <| ((hkw3.2.1 c5).1 c6)) (fun c6 => w_f b355 d355_3333 rfl rfl rfl <| w_f b355 d355_3334 rfl rfl rfl <| w_lal b355 d355_3335 rfl hkw3.1 (tlt 180 rfl) tbC_180 (bdix (n := 1) ⟨by decide, by decide⟩ rfl) ⟨by decide, by decide⟩ <| w_f b355 d355_3336 rfl rfl rfl <| w_f b355 d355_3338 rfl rfl rfl <| w_f b355 d355_3339 rfl (pf_lcmp _ _) rfl <| w_ifeq b355 d355_3340 rfl rfl (by decide +kernel) (bd_toInt _) (fun c7 => w_j b355 d355_3345 rfl (by decide +kernel) <| (((hkw3.2.1 c5).2 c6).1 c7)) (fun c7 => w_f b355 d355_3343 rfl rfl rfl <| w_rz b355 d355_3344 r355 (by decide) (((hkw3.2.1 c5).2 c6).2 c7)))) (fun c5 => w_f b355 d355_3326 rfl rfl rfl <| w_rz b355 d355_3327 r355 (by decide) (hkw3.2.2 c5))) hkw1.2.2.2.2.2)) h.2.2.2.2
theorem v355_3348 {w : PW} {Q : PO → PW → Prop} {sn : Nat} {sf : Nat → Int32} {x5 : Int} {o6 : Option Value} {o7 : Option Value} {o8 : Option Value} {o9 : Option Value} (hs : Sh w) (hsn : Nat.blt sn 2147483648 = true) (hx5 : bd x5) (ho9 : pc2 o9 = false) (h : (Sc w sn sf) ∧ (0 ≤ (x5 + 1) ∧ (x5 + 1) < sn) ∧ (Sc w sn sf) ∧ (0 ≤ (x5 + 2) ∧ (x5 + 2) < sn) ∧ pC 210 [.ref 0, iv ((sf (x5 + 1).toNat).toInt), iv ((sf (x5 + 2).toNat).toInt), .ref 180] w (kX (kI fun u2 w1 => Sh w1 ∧ (Sc w1 sn sf) ∧ (0 ≤ (x5 + 1) ∧ (x5 + 1) < sn) ∧ (Sc w1 sn sf) ∧ (0 ≤ (x5 + 2) ∧ (x5 + 2) < sn) ∧ pC 350 [.ref 169, iv ((sf (x5 + 1).toNat).toInt), iv ((sf (x5 + 2).toNat).toInt)] w1 (kI fun u4 w3 => Sh w3 ∧ ((gI w3 169 0) = u2 → (u2 ≠ 0 → pX 355 3566 [some (.ref pSC), some (.ref 0), some (.ref 169), some (.ref 180), some (.ref 181), some (iv x5), some (iv u2), some (iv u4), o8, o9] [] w3 Q) ∧ (u2 = 0 → ((lCmp (gL w3 180 0) (i2L u4)) = 0 → pX 355 3566 [some (.ref pSC), some (.ref 0), some (.ref 169), some (.ref 180), some (.ref 181), some (iv x5), some (iv u2), some (iv u4), o8, o9] [] w3 Q) ∧ ((lCmp (gL w3 180 0) (i2L u4)) ≠ 0 → Q (.inl (some (iv 0))) w3))) ∧ ((gI w3 169 0) ≠ u2 → Q (.inl (some (iv 0))) w3))) Q)) : pX 355 3348 [some (.ref pSC), some (.ref 0), some (.ref 169), some (.ref 180), some (.ref 181), some (iv x5), o6, o7, o8, o9] [] w Q :=
  w_f b355 d355_3348 rfl rfl rfl <| w_f b355 d355_3349 rfl rfl rfl <| w_f b355 d355_3350 rfl rfl rfl <| w_f b355 d355_3352 rfl rfl rfl <| w_f b355 d355_3353 rfl (pf_iadd x5 1) rfl <| w_scl b355 d355_3354 rfl h.1 (bdix (n := sn) h.2.1 hsn) h.2.1 <| w_f b355 d355_3355 rfl rfl rfl <| w_f b355 d355_3356 rfl rfl rfl <| w_f b355 d355_3358 rfl rfl rfl <| w_f b355 d355_3359 rfl (pf_iadd x5 2) rfl <| w_scl b355 d355_3360 rfl h.2.2.1 (bdix (n := sn) h.2.2.2.1 hsn) h.2.2.2.1 <| w_f b355 d355_3361 rfl rfl rfl <| w_c b355 d355_3362 rfl (pcl_s4 (n := 4) rfl rfl rfl (by decide +kernel) rfl rfl) rfl _ (hK_X rfl (hK_I fun u2 w1 hbu2 hkw1 => w_f b355 d355_3365 rfl rfl rfl <| w_f b355 d355_3367 rfl rfl rfl <| w_f b355 d355_3368 rfl rfl rfl <| w_f b355 d355_3369 rfl rfl rfl <| w_f b355 d355_3371 rfl rfl rfl <| w_f b355 d355_3372 rfl (pf_iadd x5 1) rfl <| w_scl b355 d355_3373 rfl hkw1.2.1 (bdix (n := sn) hkw1.2.2.1 hsn) hkw1.2.2.1 <| w_f b355 d355_3374 rfl rfl rfl <| w_f b355 d355_3375 rfl rfl rfl <| w_f b355 d355_3377 rfl rfl rfl <| w_f b355 d355_3378 rfl (pf_iadd x5 2) rfl <| w_scl b355 d355_3379 rfl hkw1.2.2.2.1 (bdix (n := sn) hkw1.2.2.2.2.1 hsn) hkw1.2.2.2.2.1 <| w_c b355 d355_3380 rfl (pcl_v (n := 2) rfl rfl rfl (by decide +kernel) (sh_isOb hkw1.1 (tlt 169 rfl) tbC_169) rfl rfl) rfl _ (hK_I fun u4 w3 hbu4 hkw3 => w_f b355 d355_3383 rfl rfl rfl <| w_f b355 d355_3385 rfl rfl rfl <| w_cc b355 d355_3386 rfl (pcl_v (n := 0) rfl rfl rfl (by decide +kernel) (sh_isOb hkw3.1 (tlt 169 rfl) tbC_169) rfl rfl) rfl <| c217 hkw3.1 <| w_f b355 d355_3389 rfl rfl rfl <| w_iceq b355 d355_3391 rfl rfl (by decide +kernel) (bd_gI _ _ _) hbu2 (fun c5 => w_f b355 d355_3396 rfl rfl rfl <| w_ifne b355 d355_3398 rfl rfl (by decide +kernel) hbu2 (fun c6 => w_j b355 d355_3413 rfl (by decide +kernel) <| ((hkw3.2.1 c5).1 c6)) (fun c6 => w_f b355 d355_3401 rfl rfl rfl <| w_f b355 d355_3402 rfl rfl rfl <| w_lal b355 d355_3403 rfl hkw3.1 (tlt 180 rfl) tbC_180 (bdix (n := 1) ⟨by decide, by decide⟩ rfl) ⟨by decide, by decide⟩ <| w_f b355 d355_3404 rfl rfl rfl <| w_f b355 d355_3406 rfl rfl rfl <| w_f b355 d355_3407 rfl (pf_lcmp _ _) rfl <| w_ifeq b355 d355_3408 rfl rfl (by decide +kernel) (bd_toInt _) (fun c7 => w_j b355 d355_3413 rfl (by decide +kernel) <| (((hkw3.2.1 c5).2 c6).1 c7)) (fun c7 => w_f b355 d355_3411 rfl rfl rfl <| w_rz b355 d355_3412 r355 (by decide) (((hkw3.2.1 c5).2 c6).2 c7)))) (fun c5 => w_f b355 d355_3394 rfl rfl rfl <| w_rz b355 d355_3395 r355 (by decide) (hkw3.2.2 c5))) hkw1.2.2.2.2.2)) h.2.2.2.2
theorem v355_3416 {w : PW} {Q : PO → PW → Prop} {sn : Nat} {sf : Nat → Int32} {x5 : Int} {o6 : Option Value} {o7 : Option Value} {o8 : Option Value} {o9 : Option Value} (hs : Sh w) (hsn : Nat.blt sn 2147483648 = true) (hx5 : bd x5) (ho9 : pc2 o9 = false) (h : (Sc w sn sf) ∧ (0 ≤ (x5 + 1) ∧ (x5 + 1) < sn) ∧ pC 54 [.ref 0, iv ((sf (x5 + 1).toNat).toInt)] w (kI fun u2 w1 => Sh w1 ∧ (Sc w1 sn sf) ∧ (0 ≤ (x5 + 1) ∧ (x5 + 1) < sn) ∧ pC 351 [.ref 169, iv ((sf (x5 + 1).toNat).toInt)] w1 (kI fun u4 w3 => Sh w3 ∧ (u2 = u4 → pX 355 3566 [some (.ref pSC), some (.ref 0), some (.ref 169), some (.ref 180), some (.ref 181), some (iv x5), o6, o7, o8, o9] [] w3 Q) ∧ (u2 ≠ u4 → Q (.inl (some (iv 0))) w3)))) : pX 355 3416 [some (.ref pSC), some (.ref 0), some (.ref 169), some (.ref 180), some (.ref 181), some (iv x5), o6, o7, o8, o9] [] w Q :=
  w_f b355 d355_3416 rfl rfl rfl <| w_f b355 d355_3417 rfl rfl rfl <| w_f b355 d355_3418 rfl rfl rfl <| w_f b355 d355_3420 rfl rfl rfl <| w_f b355 d355_3421 rfl (pf_iadd x5 1) rfl <| w_scl b355 d355_3422 rfl h.1 (bdix (n := sn) h.2.1 hsn) h.2.1 <| w_c b355 d355_3423 rfl (pcl_v (n := 1) rfl rfl rfl (by decide +kernel) (sh_isOb hs (tlt 0 rfl) tbC_0) rfl rfl) rfl _ (hK_I fun u2 w1 hbu2 hkw1 => w_f b355 d355_3426 rfl rfl rfl <| w_f b355 d355_3427 rfl rfl rfl <| w_f b355 d355_3428 rfl rfl rfl <| w_f b355 d355_3430 rfl rfl rfl <| w_f b355 d355_3431 rfl (pf_iadd x5 1) rfl <| w_scl b355 d355_3432 rfl hkw1.2.1 (bdix (n := sn) hkw1.2.2.1 hsn) hkw1.2.2.1 <| w_c b355 d355_3433 rfl (pcl_v (n := 1) rfl rfl rfl (by decide +kernel) (sh_isOb hkw1.1 (tlt 169 rfl) tbC_169) rfl rfl) rfl _ (hK_I fun u4 w3 hbu4 hkw3 => w_iceq b355 d355_3436 rfl rfl (by decide +kernel) hbu2 hbu4 (fun c5 => (hkw3.2.1 c5)) (fun c5 => w_f b355 d355_3439 rfl rfl rfl <| w_rz b355 d355_3440 r355 (by decide) (hkw3.2.2 c5))) hkw1.2.2.2) h.2.2
theorem v355_3441 {w : PW} {Q : PO → PW → Prop} {sn : Nat} {sf : Nat → Int32} {x5 : Int} {o6 : Option Value} {o7 : Option Value} {o8 : Option Value} {o9 : Option Value} (hs : Sh w) (hsn : Nat.blt sn 2147483648 = true) (hx5 : bd x5) (ho9 : pc2 o9 = false) (h : pC 56 [.ref 0] w (kI fun u2 w1 => Sh w1 ∧ pC 352 [.ref 169] w1 (kI fun u4 w3 => Sh w3 ∧ (u2 = u4 → pX 355 3566 [some (.ref pSC), some (.ref 0), some (.ref 169), some (.ref 180), some (.ref 181), some (iv x5), o6, o7, o8, o9] [] w3 Q) ∧ (u2 ≠ u4 → Q (.inl (some (iv 0))) w3)))) : pX 355 3441 [some (.ref pSC), some (.ref 0), some (.ref 169), some (.ref 180), some (.ref 181), some (iv x5), o6, o7, o8, o9] [] w Q :=
  w_f b355 d355_3441 rfl rfl rfl <| w_c b355 d355_3442 rfl (pcl_v (n := 0) rfl rfl rfl (by decide +kernel) (sh_isOb hs (tlt 0 rfl) tbC_0) rfl rfl) rfl _ (hK_I fun u2 w1 hbu2 hkw1 => w_f b355 d355_3445 rfl rfl rfl <| w_c b355 d355_3446 rfl (pcl_v (n := 0) rfl rfl rfl (by decide +kernel) (sh_isOb hkw1.1 (tlt 169 rfl) tbC_169) rfl rfl) rfl _ (hK_I fun u4 w3 hbu4 hkw3 => w_iceq b355 d355_3449 rfl rfl (by decide +kernel) hbu2 hbu4 (fun c5 => (hkw3.2.1 c5)) (fun c5 => w_f b355 d355_3452 rfl rfl rfl <| w_rz b355 d355_3453 r355 (by decide) (hkw3.2.2 c5))) hkw1.2) h
theorem v355_3454 {w : PW} {Q : PO → PW → Prop} {sn : Nat} {sf : Nat → Int32} {x5 : Int} {o6 : Option Value} {o7 : Option Value} {o8 : Option Value} {o9 : Option Value} (hs : Sh w) (hsn : Nat.blt sn 2147483648 = true) (hx5 : bd x5) (ho9 : pc2 o9 = false) (h : (Sc w sn sf) ∧ (0 ≤ (x5 + 1) ∧ (x5 + 1) < sn) ∧ pC 212 [.ref 0, iv ((sf (x5 + 1).toNat).toInt), .ref 180] w (kX (kI fun u2 w1 => Sh w1 ∧ (Sc w1 sn sf) ∧ (0 ≤ (x5 + 1) ∧ (x5 + 1) < sn) ∧ pC 353 [.ref 169, iv ((sf (x5 + 1).toNat).toInt)] w1 (kI fun u4 w3 => Sh w3 ∧ ((gI w3 169 0) = u2 → (u2 ≠ 0 → pX 355 3566 [some (.ref pSC), some (.ref 0), some (.ref 169), some (.ref 180), some (.ref 181), some (iv x5), some (iv u2), some (iv u4), o8, o9] [] w3 Q) ∧ (u2 = 0 → ((lCmp (gL w3 180 0) (i2L u4)) = 0 → pX 355 3566 [some (.ref pSC), some (.ref 0), some (.ref 169), some (.ref 180), some (.ref 181), some (iv x5), some (iv u2), some (iv u4), o8, o9] [] w3 Q) ∧ ((lCmp (gL w3 180 0) (i2L u4)) ≠ 0 → Q (.inl (some (iv 0))) w3))) ∧ ((gI w3 169 0) ≠ u2 → Q (.inl (some (iv 0))) w3))) Q)) : pX 355 3454 [some (.ref pSC), some (.ref 0), some (.ref 169), some (.ref 180), some (.ref 181), some (iv x5), o6, o7, o8, o9] [] w Q :=
  w_f b355 d355_3454 rfl rfl rfl <| w_f b355 d355_3455 rfl rfl rfl <| w_f b355 d355_3456 rfl rfl rfl <| w_f b355 d355_3458 rfl rfl rfl <| w_f b355 d355_3459 rfl (pf_iadd x5 1) rfl <| w_scl b355 d355_3460 rfl h.1 (bdix (n := sn) h.2.1 hsn) h.2.1 <| w_f b355 d355_3461 rfl rfl rfl <| w_c b355 d355_3462 rfl (pcl_s4 (n := 3) rfl rfl rfl (by decide +kernel) rfl rfl) rfl _ (hK_X rfl (hK_I fun u2 w1 hbu2 hkw1 => w_f b355 d355_3465 rfl rfl rfl <| w_f b355 d355_3467 rfl rfl rfl <| w_f b355 d355_3468 rfl rfl rfl <| w_f b355 d355_3469 rfl rfl rfl <| w_f b355 d355_3471 rfl rfl rfl <| w_f b355 d355_3472 rfl (pf_iadd x5 1) rfl <| w_scl b355 d355_3473 rfl hkw1.2.1 (bdix (n := sn) hkw1.2.2.1 hsn) hkw1.2.2.1 <| w_c b355 d355_3474 rfl (pcl_v (n := 1) rfl rfl rfl (by decide +kernel) (sh_isOb hkw1.1 (tlt 169 rfl) tbC_169) rfl rfl) rfl _ (hK_I fun u4 w3 hbu4 hkw3 => w_f b355 d355_3477 rfl rfl rfl <| w_f b355 d355_3479 rfl rfl rfl <| w_cc b355 d355_3480 rfl (pcl_v (n := 0) rfl rfl rfl (by decide +kernel) (sh_isOb hkw3.1 (tlt 169 rfl) tbC_169) rfl rfl) rfl <| c217 hkw3.1 <| w_f b355 d355_3483 rfl rfl rfl <| w_iceq b355 d355_3485 rfl rfl (by decide +kernel) (bd_gI _ _ _) hbu2 (fun c5 => w_f b355 d355_3490 rfl rfl rfl <| w_ifne b355 d355_3492 rfl rfl (by decide +kernel) hbu2 (fun c6 => w_j b355 d355_3507 rfl (by decide +kernel) <| ((hkw3.2.1 c5).1 c6)) (fun c6 => w_f b355 d355_3495 rfl rfl rfl <| w_f b355 d355_3496 rfl rfl rfl <| w_lal b355 d355_3497 rfl hkw3.1 (tlt 180 rfl) tbC_180 (bdix (n := 1) ⟨by decide, by decide⟩ rfl) ⟨by decide, by decide⟩ <| w_f b355 d355_3498 rfl rfl rfl <| w_f b355 d355_3500 rfl rfl rfl <| w_f b355 d355_3501 rfl (pf_lcmp _ _) rfl <| w_ifeq b355 d355_3502 rfl rfl (by decide +kernel) (bd_toInt _) (fun c7 => w_j b355 d355_3507 rfl (by decide +kernel) <| (((hkw3.2.1 c5).2 c6).1 c7)) (fun c7 => w_f b355 d355_3505 rfl rfl rfl <| w_rz b355 d355_3506 r355 (by decide) (((hkw3.2.1 c5).2 c6).2 c7)))) (fun c5 => w_f b355 d355_3488 rfl rfl rfl <| w_rz b355 d355_3489 r355 (by decide) (hkw3.2.2 c5))) hkw1.2.2.2)) h.2.2
theorem v355_3510 {w : PW} {Q : PO → PW → Prop} {sn : Nat} {sf : Nat → Int32} {x5 : Int} {o6 : Option Value} {o7 : Option Value} {o8 : Option Value} {o9 : Option Value} (hs : Sh w) (hsn : Nat.blt sn 2147483648 = true) (hx5 : bd x5) (ho9 : pc2 o9 = false) (h : (Sc w sn sf) ∧ (0 ≤ (x5 + 1) ∧ (x5 + 1) < sn) ∧ pC 214 [.ref 0, iv ((sf (x5 + 1).toNat).toInt), .ref 180] w (kX (kI fun u2 w1 => Sh w1 ∧ (Sc w1 sn sf) ∧ (0 ≤ (x5 + 1) ∧ (x5 + 1) < sn) ∧ pC 354 [.ref 169, iv ((sf (x5 + 1).toNat).toInt)] w1 (kI fun u4 w3 => Sh w3 ∧ ((gI w3 169 0) = u2 → (u2 ≠ 0 → pX 355 3566 [some (.ref pSC), some (.ref 0), some (.ref 169), some (.ref 180), some (.ref 181), some (iv x5), some (iv u2), some (iv u4), o8, o9] [] w3 Q) ∧ (u2 = 0 → ((lCmp (gL w3 180 0) (i2L u4)) = 0 → pX 355 3566 [some (.ref pSC), some (.ref 0), some (.ref 169), some (.ref 180), some (.ref 181), some (iv x5), some (iv u2), some (iv u4), o8, o9] [] w3 Q) ∧ ((lCmp (gL w3 180 0) (i2L u4)) ≠ 0 → Q (.inl (some (iv 0))) w3))) ∧ ((gI w3 169 0) ≠ u2 → Q (.inl (some (iv 0))) w3))) Q)) : pX 355 3510 [some (.ref pSC), some (.ref 0), some (.ref 169), some (.ref 180), some (.ref 181), some (iv x5), o6, o7, o8, o9] [] w Q :=
  w_f b355 d355_3510 rfl rfl rfl <| w_f b355 d355_3511 rfl rfl rfl <| w_f b355 d355_3512 rfl rfl rfl <| w_f b355 d355_3514 rfl rfl rfl <| w_f b355 d355_3515 rfl (pf_iadd x5 1) rfl <| w_scl b355 d355_3516 rfl h.1 (bdix (n := sn) h.2.1 hsn) h.2.1 <| w_f b355 d355_3517 rfl rfl rfl <| w_c b355 d355_3518 rfl (pcl_s4 (n := 3) rfl rfl rfl (by decide +kernel) rfl rfl) rfl _ (hK_X rfl (hK_I fun u2 w1 hbu2 hkw1 => w_f b355 d355_3521 rfl rfl rfl <| w_f b355 d355_3523 rfl rfl rfl <| w_f b355 d355_3524 rfl rfl rfl <| w_f b355 d355_3525 rfl rfl rfl <| w_f b355 d355_3527 rfl rfl rfl <| w_f b355 d355_3528 rfl (pf_iadd x5 1) rfl <| w_scl b355 d355_3529 rfl hkw1.2.1 (bdix (n := sn) hkw1.2.2.1 hsn) hkw1.2.2.1 <| w_c b355 d355_3530 rfl (pcl_v (n := 1) rfl rfl rfl (by decide +kernel) (sh_isOb hkw1.1 (tlt 169 rfl) tbC_169) rfl rfl) rfl _ (hK_I fun u4 w3 hbu4 hkw3 => w_f b355 d355_3533 rfl rfl rfl <| w_f b355 d355_3535 rfl rfl rfl <| w_cc b355 d355_3536 rfl (pcl_v (n := 0) rfl rfl rfl (by decide +kernel) (sh_isOb hkw3.1 (tlt 169 rfl) tbC_169) rfl rfl) rfl <| c217 hkw3.1 <| w_f b355 d355_3539 rfl rfl rfl <| w_iceq b355 d355_3541 rfl rfl (by decide +kernel) (bd_gI _ _ _) hbu2 (fun c5 => w_f b355 d355_3546 rfl rfl rfl <| w_ifne b355 d355_3548 rfl rfl (by decide +kernel) hbu2 (fun c6 => w_j b355 d355_3563 rfl (by decide +kernel) <| ((hkw3.2.1 c5).1 c6)) (fun c6 => w_f b355 d355_3551 rfl rfl rfl <| w_f b355 d355_3552 rfl rfl rfl <| w_lal b355 d355_3553 rfl hkw3.1 (tlt 180 rfl) tbC_180 (bdix (n := 1) ⟨by decide, by decide⟩ rfl) ⟨by decide, by decide⟩ <| w_f b355 d355_3554 rfl rfl rfl <| w_f b355 d355_3556 rfl rfl rfl <| w_f b355 d355_3557 rfl (pf_lcmp _ _) rfl <| w_ifeq b355 d355_3558 rfl rfl (by decide +kernel) (bd_toInt _) (fun c7 => w_j b355 d355_3563 rfl (by decide +kernel) <| (((hkw3.2.1 c5).2 c6).1 c7)) (fun c7 => w_f b355 d355_3561 rfl rfl rfl <| w_rz b355 d355_3562 r355 (by decide) (((hkw3.2.1 c5).2 c6).2 c7)))) (fun c5 => w_f b355 d355_3544 rfl rfl rfl <| w_rz b355 d355_3545 r355 (by decide) (hkw3.2.2 c5))) hkw1.2.2.2)) h.2.2
theorem v355_3566 {w : PW} {Q : PO → PW → Prop} {sn : Nat} {sf : Nat → Int32} {x5 : Int} {o6 : Option Value} {o7 : Option Value} {o8 : Option Value} {o9 : Option Value} (hs : Sh w) (hsn : Nat.blt sn 2147483648 = true) (hx5 : bd x5) (ho9 : pc2 o9 = false) (h : pX 355 28 [some (.ref pSC), some (.ref 0), some (.ref 169), some (.ref 180), some (.ref 181), some (iv (x5 + 5)), o6, o7, o8, o9] [] w Q) : pX 355 3566 [some (.ref pSC), some (.ref 0), some (.ref 169), some (.ref 180), some (.ref 181), some (iv x5), o6, o7, o8, o9] [] w Q :=
  w_f b355 d355_3566 rfl (pf_iinc rfl rfl) rfl <| w_j b355 d355_3569 rfl (by decide +kernel) <| h
