/-! THE LAW: its instructions -/
theorem b355 : mB 355 = cL_law := rfl
theorem r355 : mR 355 = (some .boolean) := rfl
theorem d355_28 : decode cL_law 28 = .ok (.iload 5, 2) := by decide +kernel
theorem d355_30 : decode cL_law 30 = .ok (.aload_n 0, 1) := by decide +kernel
theorem d355_31 : decode cL_law 31 = .ok (.arraylength, 1) := by decide +kernel
theorem d355_32 : decode cL_law 32 = .ok (.iconst 5, 1) := by decide +kernel
theorem d355_33 : decode cL_law 33 = .ok (.isub, 1) := by decide +kernel
theorem d355_34 : decode cL_law 34 = .ok (.if_icmp .gt 3538, 3) := by decide +kernel
theorem d355_37 : decode cL_law 37 = .ok (.aload_n 0, 1) := by decide +kernel
theorem d355_38 : decode cL_law 38 = .ok (.iload 5, 2) := by decide +kernel
theorem d355_40 : decode cL_law 40 = .ok (.iaload, 1) := by decide +kernel
theorem d355_41 : decode cL_law 41 = .ok (.bipush 63, 2) := by decide +kernel
theorem d355_43 : decode cL_law 43 = .ok (.iand, 1) := by decide +kernel
theorem d355_44 : decode cL_law 44 = .ok (.tableswitch 3522 0 57 #[248, 305, 318, 331, 344, 400, 468, 536, 623, 703, 771, 827, 883, 963, 1031, 1087, 1143, 1206, 1262, 1318, 1374, 1430, 1486, 1542, 1598, 1654, 1722, 1778, 1858, 1914, 1982, 2038, 2094, 2107, 2120, 2133, 2213, 2269, 2337, 2405, 2473, 2588, 2644, 2700, 2768, 2836, 2892, 2948, 3004, 3060, 3116, 3193, 3236, 3304, 3372, 3397, 3410, 3466], 248) := by decide +kernel
theorem d355_292 : decode cL_law 292 = .ok (.aload_n 1, 1) := by decide +kernel
theorem d355_293 : decode cL_law 293 = .ok (.aload_n 0, 1) := by decide +kernel
theorem d355_294 : decode cL_law 294 = .ok (.iload 5, 2) := by decide +kernel
theorem d355_296 : decode cL_law 296 = .ok (.iconst 1, 1) := by decide +kernel
theorem d355_297 : decode cL_law 297 = .ok (.iadd, 1) := by decide +kernel
theorem d355_298 : decode cL_law 298 = .ok (.iaload, 1) := by decide +kernel
theorem d355_299 : decode cL_law 299 = .ok (.i2l, 1) := by decide +kernel
theorem d355_300 : decode cL_law 300 = .ok (.bipush 32, 2) := by decide +kernel
theorem d355_302 : decode cL_law 302 = .ok (.lshl, 1) := by decide +kernel
theorem d355_303 : decode cL_law 303 = .ok (.aload_n 0, 1) := by decide +kernel
theorem d355_304 : decode cL_law 304 = .ok (.iload 5, 2) := by decide +kernel
theorem d355_306 : decode cL_law 306 = .ok (.iconst 2, 1) := by decide +kernel
theorem d355_307 : decode cL_law 307 = .ok (.iadd, 1) := by decide +kernel
theorem d355_308 : decode cL_law 308 = .ok (.iaload, 1) := by decide +kernel
theorem d355_309 : decode cL_law 309 = .ok (.i2l, 1) := by decide +kernel
theorem d355_310 : decode cL_law 310 = .ok (.ldc2_w 168, 3) := by decide +kernel
theorem d355_313 : decode cL_law 313 = .ok (.land, 1) := by decide +kernel
theorem d355_314 : decode cL_law 314 = .ok (.lor, 1) := by decide +kernel
theorem d355_315 : decode cL_law 315 = .ok (.invokevirtual 170, 3) := by decide +kernel
theorem d355_318 : decode cL_law 318 = .ok (.aload_n 2, 1) := by decide +kernel
theorem d355_319 : decode cL_law 319 = .ok (.aload_n 0, 1) := by decide +kernel
theorem d355_320 : decode cL_law 320 = .ok (.iload 5, 2) := by decide +kernel
theorem d355_322 : decode cL_law 322 = .ok (.iconst 1, 1) := by decide +kernel
theorem d355_323 : decode cL_law 323 = .ok (.iadd, 1) := by decide +kernel
theorem d355_324 : decode cL_law 324 = .ok (.iaload, 1) := by decide +kernel
theorem d355_325 : decode cL_law 325 = .ok (.i2l, 1) := by decide +kernel
theorem d355_326 : decode cL_law 326 = .ok (.bipush 32, 2) := by decide +kernel
theorem d355_328 : decode cL_law 328 = .ok (.lshl, 1) := by decide +kernel
theorem d355_329 : decode cL_law 329 = .ok (.aload_n 0, 1) := by decide +kernel
theorem d355_330 : decode cL_law 330 = .ok (.iload 5, 2) := by decide +kernel
theorem d355_332 : decode cL_law 332 = .ok (.iconst 2, 1) := by decide +kernel
theorem d355_333 : decode cL_law 333 = .ok (.iadd, 1) := by decide +kernel
theorem d355_334 : decode cL_law 334 = .ok (.iaload, 1) := by decide +kernel
theorem d355_335 : decode cL_law 335 = .ok (.i2l, 1) := by decide +kernel
theorem d355_336 : decode cL_law 336 = .ok (.ldc2_w 168, 3) := by decide +kernel
theorem d355_339 : decode cL_law 339 = .ok (.land, 1) := by decide +kernel
theorem d355_340 : decode cL_law 340 = .ok (.lor, 1) := by decide +kernel
theorem d355_341 : decode cL_law 341 = .ok (.invokevirtual 174, 3) := by decide +kernel
theorem d355_344 : decode cL_law 344 = .ok (.if_icmp .eq 3222, 3) := by decide +kernel
theorem d355_347 : decode cL_law 347 = .ok (.iconst 0, 1) := by decide +kernel
theorem d355_348 : decode cL_law 348 = .ok (.ireturn, 1) := by decide +kernel
theorem d355_349 : decode cL_law 349 = .ok (.aload_n 1, 1) := by decide +kernel
theorem d355_350 : decode cL_law 350 = .ok (.invokevirtual 175, 3) := by decide +kernel
theorem d355_353 : decode cL_law 353 = .ok (.aload_n 2, 1) := by decide +kernel
theorem d355_354 : decode cL_law 354 = .ok (.invokevirtual 179, 3) := by decide +kernel
theorem d355_357 : decode cL_law 357 = .ok (.if_icmp .eq 3209, 3) := by decide +kernel
theorem d355_360 : decode cL_law 360 = .ok (.iconst 0, 1) := by decide +kernel
theorem d355_361 : decode cL_law 361 = .ok (.ireturn, 1) := by decide +kernel
theorem d355_362 : decode cL_law 362 = .ok (.aload_n 1, 1) := by decide +kernel
theorem d355_363 : decode cL_law 363 = .ok (.invokevirtual 180, 3) := by decide +kernel
theorem d355_366 : decode cL_law 366 = .ok (.aload_n 2, 1) := by decide +kernel
theorem d355_367 : decode cL_law 367 = .ok (.invokevirtual 183, 3) := by decide +kernel
theorem d355_370 : decode cL_law 370 = .ok (.if_icmp .eq 3196, 3) := by decide +kernel
theorem d355_373 : decode cL_law 373 = .ok (.iconst 0, 1) := by decide +kernel
theorem d355_374 : decode cL_law 374 = .ok (.ireturn, 1) := by decide +kernel
theorem d355_375 : decode cL_law 375 = .ok (.aload_n 1, 1) := by decide +kernel
theorem d355_376 : decode cL_law 376 = .ok (.invokevirtual 184, 3) := by decide +kernel
theorem d355_379 : decode cL_law 379 = .ok (.aload_n 2, 1) := by decide +kernel
theorem d355_380 : decode cL_law 380 = .ok (.invokevirtual 187, 3) := by decide +kernel
theorem d355_383 : decode cL_law 383 = .ok (.if_icmp .eq 3183, 3) := by decide +kernel
theorem d355_386 : decode cL_law 386 = .ok (.iconst 0, 1) := by decide +kernel
theorem d355_387 : decode cL_law 387 = .ok (.ireturn, 1) := by decide +kernel
theorem d355_388 : decode cL_law 388 = .ok (.aload_n 1, 1) := by decide +kernel
theorem d355_389 : decode cL_law 389 = .ok (.aload_n 0, 1) := by decide +kernel
theorem d355_390 : decode cL_law 390 = .ok (.iload 5, 2) := by decide +kernel
theorem d355_392 : decode cL_law 392 = .ok (.iconst 1, 1) := by decide +kernel
theorem d355_393 : decode cL_law 393 = .ok (.iadd, 1) := by decide +kernel
theorem d355_394 : decode cL_law 394 = .ok (.iaload, 1) := by decide +kernel
theorem d355_395 : decode cL_law 395 = .ok (.aload_n 3, 1) := by decide +kernel
theorem d355_396 : decode cL_law 396 = .ok (.invokestatic 188, 3) := by decide +kernel
theorem d355_399 : decode cL_law 399 = .ok (.istore 6, 2) := by decide +kernel
theorem d355_401 : decode cL_law 401 = .ok (.aload_n 2, 1) := by decide +kernel
theorem d355_402 : decode cL_law 402 = .ok (.aload_n 0, 1) := by decide +kernel
theorem d355_403 : decode cL_law 403 = .ok (.iload 5, 2) := by decide +kernel
theorem d355_405 : decode cL_law 405 = .ok (.iconst 1, 1) := by decide +kernel
theorem d355_406 : decode cL_law 406 = .ok (.iadd, 1) := by decide +kernel
theorem d355_407 : decode cL_law 407 = .ok (.iaload, 1) := by decide +kernel
theorem d355_408 : decode cL_law 408 = .ok (.invokevirtual 193, 3) := by decide +kernel
theorem d355_411 : decode cL_law 411 = .ok (.istore 7, 2) := by decide +kernel
theorem d355_413 : decode cL_law 413 = .ok (.aload_n 2, 1) := by decide +kernel
theorem d355_414 : decode cL_law 414 = .ok (.invokevirtual 194, 3) := by decide +kernel
theorem d355_417 : decode cL_law 417 = .ok (.iload 6, 2) := by decide +kernel
theorem d355_419 : decode cL_law 419 = .ok (.if_icmp .eq 5, 3) := by decide +kernel
theorem d355_422 : decode cL_law 422 = .ok (.iconst 0, 1) := by decide +kernel
theorem d355_423 : decode cL_law 423 = .ok (.ireturn, 1) := by decide +kernel
theorem d355_424 : decode cL_law 424 = .ok (.iload 6, 2) := by decide +kernel
theorem d355_426 : decode cL_law 426 = .ok (.ifCond .ne 15, 3) := by decide +kernel
theorem d355_429 : decode cL_law 429 = .ok (.aload_n 3, 1) := by decide +kernel
theorem d355_430 : decode cL_law 430 = .ok (.iconst 0, 1) := by decide +kernel
theorem d355_431 : decode cL_law 431 = .ok (.laload, 1) := by decide +kernel
theorem d355_432 : decode cL_law 432 = .ok (.iload 7, 2) := by decide +kernel
theorem d355_434 : decode cL_law 434 = .ok (.i2l, 1) := by decide +kernel
theorem d355_435 : decode cL_law 435 = .ok (.lcmp, 1) := by decide +kernel
theorem d355_436 : decode cL_law 436 = .ok (.ifCond .eq 5, 3) := by decide +kernel
theorem d355_439 : decode cL_law 439 = .ok (.iconst 0, 1) := by decide +kernel
theorem d355_440 : decode cL_law 440 = .ok (.ireturn, 1) := by decide +kernel
theorem d355_441 : decode cL_law 441 = .ok (.goto 3125, 3) := by decide +kernel
theorem d355_444 : decode cL_law 444 = .ok (.aload_n 1, 1) := by decide +kernel
theorem d355_445 : decode cL_law 445 = .ok (.aload_n 0, 1) := by decide +kernel
theorem d355_446 : decode cL_law 446 = .ok (.iload 5, 2) := by decide +kernel
theorem d355_448 : decode cL_law 448 = .ok (.iconst 1, 1) := by decide +kernel
theorem d355_449 : decode cL_law 449 = .ok (.iadd, 1) := by decide +kernel
theorem d355_450 : decode cL_law 450 = .ok (.iaload, 1) := by decide +kernel
theorem d355_451 : decode cL_law 451 = .ok (.aload_n 0, 1) := by decide +kernel
theorem d355_452 : decode cL_law 452 = .ok (.iload 5, 2) := by decide +kernel
theorem d355_454 : decode cL_law 454 = .ok (.iconst 2, 1) := by decide +kernel
theorem d355_455 : decode cL_law 455 = .ok (.iadd, 1) := by decide +kernel
theorem d355_456 : decode cL_law 456 = .ok (.iaload, 1) := by decide +kernel
theorem d355_457 : decode cL_law 457 = .ok (.aload_n 3, 1) := by decide +kernel
theorem d355_458 : decode cL_law 458 = .ok (.invokestatic 197, 3) := by decide +kernel
theorem d355_461 : decode cL_law 461 = .ok (.istore 6, 2) := by decide +kernel
theorem d355_463 : decode cL_law 463 = .ok (.aload_n 2, 1) := by decide +kernel
theorem d355_464 : decode cL_law 464 = .ok (.aload_n 0, 1) := by decide +kernel
theorem d355_465 : decode cL_law 465 = .ok (.iload 5, 2) := by decide +kernel
theorem d355_467 : decode cL_law 467 = .ok (.iconst 1, 1) := by decide +kernel
theorem d355_468 : decode cL_law 468 = .ok (.iadd, 1) := by decide +kernel
theorem d355_469 : decode cL_law 469 = .ok (.iaload, 1) := by decide +kernel
theorem d355_470 : decode cL_law 470 = .ok (.aload_n 0, 1) := by decide +kernel
theorem d355_471 : decode cL_law 471 = .ok (.iload 5, 2) := by decide +kernel
theorem d355_473 : decode cL_law 473 = .ok (.iconst 2, 1) := by decide +kernel
theorem d355_474 : decode cL_law 474 = .ok (.iadd, 1) := by decide +kernel
theorem d355_475 : decode cL_law 475 = .ok (.iaload, 1) := by decide +kernel
theorem d355_476 : decode cL_law 476 = .ok (.invokevirtual 200, 3) := by decide +kernel
theorem d355_479 : decode cL_law 479 = .ok (.istore 7, 2) := by decide +kernel
theorem d355_481 : decode cL_law 481 = .ok (.aload_n 2, 1) := by decide +kernel
theorem d355_482 : decode cL_law 482 = .ok (.invokevirtual 194, 3) := by decide +kernel
theorem d355_485 : decode cL_law 485 = .ok (.iload 6, 2) := by decide +kernel
theorem d355_487 : decode cL_law 487 = .ok (.if_icmp .eq 5, 3) := by decide +kernel
theorem d355_490 : decode cL_law 490 = .ok (.iconst 0, 1) := by decide +kernel
theorem d355_491 : decode cL_law 491 = .ok (.ireturn, 1) := by decide +kernel
theorem d355_492 : decode cL_law 492 = .ok (.iload 6, 2) := by decide +kernel
theorem d355_494 : decode cL_law 494 = .ok (.ifCond .ne 15, 3) := by decide +kernel
theorem d355_497 : decode cL_law 497 = .ok (.aload_n 3, 1) := by decide +kernel
theorem d355_498 : decode cL_law 498 = .ok (.iconst 0, 1) := by decide +kernel
theorem d355_499 : decode cL_law 499 = .ok (.laload, 1) := by decide +kernel
theorem d355_500 : decode cL_law 500 = .ok (.iload 7, 2) := by decide +kernel
theorem d355_502 : decode cL_law 502 = .ok (.i2l, 1) := by decide +kernel
theorem d355_503 : decode cL_law 503 = .ok (.lcmp, 1) := by decide +kernel
theorem d355_504 : decode cL_law 504 = .ok (.ifCond .eq 5, 3) := by decide +kernel
theorem d355_507 : decode cL_law 507 = .ok (.iconst 0, 1) := by decide +kernel
theorem d355_508 : decode cL_law 508 = .ok (.ireturn, 1) := by decide +kernel
theorem d355_509 : decode cL_law 509 = .ok (.goto 3057, 3) := by decide +kernel
theorem d355_512 : decode cL_law 512 = .ok (.aload_n 1, 1) := by decide +kernel
theorem d355_513 : decode cL_law 513 = .ok (.aload_n 0, 1) := by decide +kernel
theorem d355_514 : decode cL_law 514 = .ok (.iload 5, 2) := by decide +kernel
theorem d355_516 : decode cL_law 516 = .ok (.iconst 1, 1) := by decide +kernel
theorem d355_517 : decode cL_law 517 = .ok (.iadd, 1) := by decide +kernel
theorem d355_518 : decode cL_law 518 = .ok (.iaload, 1) := by decide +kernel
theorem d355_519 : decode cL_law 519 = .ok (.aload_n 0, 1) := by decide +kernel
theorem d355_520 : decode cL_law 520 = .ok (.iload 5, 2) := by decide +kernel
theorem d355_522 : decode cL_law 522 = .ok (.iconst 2, 1) := by decide +kernel
theorem d355_523 : decode cL_law 523 = .ok (.iadd, 1) := by decide +kernel
theorem d355_524 : decode cL_law 524 = .ok (.iaload, 1) := by decide +kernel
theorem d355_525 : decode cL_law 525 = .ok (.aload_n 3, 1) := by decide +kernel
theorem d355_526 : decode cL_law 526 = .ok (.invokestatic 201, 3) := by decide +kernel
theorem d355_529 : decode cL_law 529 = .ok (.istore 6, 2) := by decide +kernel
theorem d355_531 : decode cL_law 531 = .ok (.aload_n 2, 1) := by decide +kernel
theorem d355_532 : decode cL_law 532 = .ok (.aload_n 0, 1) := by decide +kernel
theorem d355_533 : decode cL_law 533 = .ok (.iload 5, 2) := by decide +kernel
theorem d355_535 : decode cL_law 535 = .ok (.iconst 1, 1) := by decide +kernel
theorem d355_536 : decode cL_law 536 = .ok (.iadd, 1) := by decide +kernel
theorem d355_537 : decode cL_law 537 = .ok (.iaload, 1) := by decide +kernel
theorem d355_538 : decode cL_law 538 = .ok (.aload_n 0, 1) := by decide +kernel
theorem d355_539 : decode cL_law 539 = .ok (.iload 5, 2) := by decide +kernel
theorem d355_541 : decode cL_law 541 = .ok (.iconst 2, 1) := by decide +kernel
theorem d355_542 : decode cL_law 542 = .ok (.iadd, 1) := by decide +kernel
theorem d355_543 : decode cL_law 543 = .ok (.iaload, 1) := by decide +kernel
theorem d355_544 : decode cL_law 544 = .ok (.invokevirtual 203, 3) := by decide +kernel
theorem d355_547 : decode cL_law 547 = .ok (.istore 7, 2) := by decide +kernel
theorem d355_549 : decode cL_law 549 = .ok (.aload_n 2, 1) := by decide +kernel
theorem d355_550 : decode cL_law 550 = .ok (.invokevirtual 194, 3) := by decide +kernel
theorem d355_553 : decode cL_law 553 = .ok (.iload 6, 2) := by decide +kernel
theorem d355_555 : decode cL_law 555 = .ok (.if_icmp .eq 5, 3) := by decide +kernel
theorem d355_558 : decode cL_law 558 = .ok (.iconst 0, 1) := by decide +kernel
theorem d355_559 : decode cL_law 559 = .ok (.ireturn, 1) := by decide +kernel
theorem d355_560 : decode cL_law 560 = .ok (.iload 6, 2) := by decide +kernel
theorem d355_562 : decode cL_law 562 = .ok (.ifCond .ne 15, 3) := by decide +kernel
theorem d355_565 : decode cL_law 565 = .ok (.aload_n 3, 1) := by decide +kernel
theorem d355_566 : decode cL_law 566 = .ok (.iconst 0, 1) := by decide +kernel
theorem d355_567 : decode cL_law 567 = .ok (.laload, 1) := by decide +kernel
theorem d355_568 : decode cL_law 568 = .ok (.iload 7, 2) := by decide +kernel
theorem d355_570 : decode cL_law 570 = .ok (.i2l, 1) := by decide +kernel
theorem d355_571 : decode cL_law 571 = .ok (.lcmp, 1) := by decide +kernel
theorem d355_572 : decode cL_law 572 = .ok (.ifCond .eq 5, 3) := by decide +kernel
theorem d355_575 : decode cL_law 575 = .ok (.iconst 0, 1) := by decide +kernel
theorem d355_576 : decode cL_law 576 = .ok (.ireturn, 1) := by decide +kernel
theorem d355_577 : decode cL_law 577 = .ok (.goto 2989, 3) := by decide +kernel
theorem d355_580 : decode cL_law 580 = .ok (.aload_n 1, 1) := by decide +kernel
theorem d355_581 : decode cL_law 581 = .ok (.aload_n 0, 1) := by decide +kernel
theorem d355_582 : decode cL_law 582 = .ok (.iload 5, 2) := by decide +kernel
theorem d355_584 : decode cL_law 584 = .ok (.iconst 1, 1) := by decide +kernel
theorem d355_585 : decode cL_law 585 = .ok (.iadd, 1) := by decide +kernel
theorem d355_586 : decode cL_law 586 = .ok (.iaload, 1) := by decide +kernel
theorem d355_587 : decode cL_law 587 = .ok (.aload_n 0, 1) := by decide +kernel
theorem d355_588 : decode cL_law 588 = .ok (.iload 5, 2) := by decide +kernel
theorem d355_590 : decode cL_law 590 = .ok (.iconst 2, 1) := by decide +kernel
theorem d355_591 : decode cL_law 591 = .ok (.iadd, 1) := by decide +kernel
theorem d355_592 : decode cL_law 592 = .ok (.iaload, 1) := by decide +kernel
theorem d355_593 : decode cL_law 593 = .ok (.aload_n 0, 1) := by decide +kernel
theorem d355_594 : decode cL_law 594 = .ok (.iload 5, 2) := by decide +kernel
theorem d355_596 : decode cL_law 596 = .ok (.iconst 3, 1) := by decide +kernel
theorem d355_597 : decode cL_law 597 = .ok (.iadd, 1) := by decide +kernel
theorem d355_598 : decode cL_law 598 = .ok (.iaload, 1) := by decide +kernel
theorem d355_599 : decode cL_law 599 = .ok (.aload_n 3, 1) := by decide +kernel
theorem d355_600 : decode cL_law 600 = .ok (.invokestatic 204, 3) := by decide +kernel
theorem d355_603 : decode cL_law 603 = .ok (.istore 6, 2) := by decide +kernel
theorem d355_605 : decode cL_law 605 = .ok (.aload_n 2, 1) := by decide +kernel
theorem d355_606 : decode cL_law 606 = .ok (.aload_n 0, 1) := by decide +kernel
theorem d355_607 : decode cL_law 607 = .ok (.iload 5, 2) := by decide +kernel
theorem d355_609 : decode cL_law 609 = .ok (.iconst 1, 1) := by decide +kernel
theorem d355_610 : decode cL_law 610 = .ok (.iadd, 1) := by decide +kernel
theorem d355_611 : decode cL_law 611 = .ok (.iaload, 1) := by decide +kernel
theorem d355_612 : decode cL_law 612 = .ok (.aload_n 0, 1) := by decide +kernel
theorem d355_613 : decode cL_law 613 = .ok (.iload 5, 2) := by decide +kernel
theorem d355_615 : decode cL_law 615 = .ok (.iconst 2, 1) := by decide +kernel
theorem d355_616 : decode cL_law 616 = .ok (.iadd, 1) := by decide +kernel
theorem d355_617 : decode cL_law 617 = .ok (.iaload, 1) := by decide +kernel
theorem d355_618 : decode cL_law 618 = .ok (.aload_n 0, 1) := by decide +kernel
theorem d355_619 : decode cL_law 619 = .ok (.iload 5, 2) := by decide +kernel
theorem d355_621 : decode cL_law 621 = .ok (.iconst 3, 1) := by decide +kernel
theorem d355_622 : decode cL_law 622 = .ok (.iadd, 1) := by decide +kernel
theorem d355_623 : decode cL_law 623 = .ok (.iaload, 1) := by decide +kernel
theorem d355_624 : decode cL_law 624 = .ok (.invokevirtual 207, 3) := by decide +kernel
theorem d355_627 : decode cL_law 627 = .ok (.istore 7, 2) := by decide +kernel
theorem d355_629 : decode cL_law 629 = .ok (.aload_n 2, 1) := by decide +kernel
theorem d355_630 : decode cL_law 630 = .ok (.invokevirtual 194, 3) := by decide +kernel
theorem d355_633 : decode cL_law 633 = .ok (.iload 6, 2) := by decide +kernel
theorem d355_635 : decode cL_law 635 = .ok (.if_icmp .eq 5, 3) := by decide +kernel
theorem d355_638 : decode cL_law 638 = .ok (.iconst 0, 1) := by decide +kernel
theorem d355_639 : decode cL_law 639 = .ok (.ireturn, 1) := by decide +kernel
theorem d355_640 : decode cL_law 640 = .ok (.iload 6, 2) := by decide +kernel
theorem d355_642 : decode cL_law 642 = .ok (.ifCond .ne 22, 3) := by decide +kernel
theorem d355_645 : decode cL_law 645 = .ok (.aload_n 3, 1) := by decide +kernel
theorem d355_646 : decode cL_law 646 = .ok (.iconst 0, 1) := by decide +kernel
theorem d355_647 : decode cL_law 647 = .ok (.laload, 1) := by decide +kernel
theorem d355_648 : decode cL_law 648 = .ok (.iload 7, 2) := by decide +kernel
theorem d355_650 : decode cL_law 650 = .ok (.ifCond .eq 7, 3) := by decide +kernel
theorem d355_653 : decode cL_law 653 = .ok (.lconst 1, 1) := by decide +kernel
theorem d355_654 : decode cL_law 654 = .ok (.goto 4, 3) := by decide +kernel
theorem d355_657 : decode cL_law 657 = .ok (.lconst 0, 1) := by decide +kernel
theorem d355_658 : decode cL_law 658 = .ok (.lcmp, 1) := by decide +kernel
theorem d355_659 : decode cL_law 659 = .ok (.ifCond .eq 5, 3) := by decide +kernel
theorem d355_662 : decode cL_law 662 = .ok (.iconst 0, 1) := by decide +kernel
theorem d355_663 : decode cL_law 663 = .ok (.ireturn, 1) := by decide +kernel
theorem d355_664 : decode cL_law 664 = .ok (.goto 2902, 3) := by decide +kernel
theorem d355_667 : decode cL_law 667 = .ok (.aload_n 1, 1) := by decide +kernel
theorem d355_668 : decode cL_law 668 = .ok (.aload_n 0, 1) := by decide +kernel
theorem d355_669 : decode cL_law 669 = .ok (.iload 5, 2) := by decide +kernel
theorem d355_671 : decode cL_law 671 = .ok (.iconst 1, 1) := by decide +kernel
theorem d355_672 : decode cL_law 672 = .ok (.iadd, 1) := by decide +kernel
theorem d355_673 : decode cL_law 673 = .ok (.iaload, 1) := by decide +kernel
theorem d355_674 : decode cL_law 674 = .ok (.aload_n 0, 1) := by decide +kernel
theorem d355_675 : decode cL_law 675 = .ok (.iload 5, 2) := by decide +kernel
theorem d355_677 : decode cL_law 677 = .ok (.iconst 2, 1) := by decide +kernel
theorem d355_678 : decode cL_law 678 = .ok (.iadd, 1) := by decide +kernel
theorem d355_679 : decode cL_law 679 = .ok (.iaload, 1) := by decide +kernel
theorem d355_680 : decode cL_law 680 = .ok (.aload_n 0, 1) := by decide +kernel
theorem d355_681 : decode cL_law 681 = .ok (.iload 5, 2) := by decide +kernel
theorem d355_683 : decode cL_law 683 = .ok (.iconst 3, 1) := by decide +kernel
theorem d355_684 : decode cL_law 684 = .ok (.iadd, 1) := by decide +kernel
theorem d355_685 : decode cL_law 685 = .ok (.iaload, 1) := by decide +kernel
theorem d355_686 : decode cL_law 686 = .ok (.aload_n 3, 1) := by decide +kernel
theorem d355_687 : decode cL_law 687 = .ok (.invokestatic 208, 3) := by decide +kernel
theorem d355_690 : decode cL_law 690 = .ok (.istore 6, 2) := by decide +kernel
theorem d355_692 : decode cL_law 692 = .ok (.aload_n 2, 1) := by decide +kernel
theorem d355_693 : decode cL_law 693 = .ok (.aload_n 0, 1) := by decide +kernel
theorem d355_694 : decode cL_law 694 = .ok (.iload 5, 2) := by decide +kernel
theorem d355_696 : decode cL_law 696 = .ok (.iconst 1, 1) := by decide +kernel
theorem d355_697 : decode cL_law 697 = .ok (.iadd, 1) := by decide +kernel
theorem d355_698 : decode cL_law 698 = .ok (.iaload, 1) := by decide +kernel
theorem d355_699 : decode cL_law 699 = .ok (.aload_n 0, 1) := by decide +kernel
theorem d355_700 : decode cL_law 700 = .ok (.iload 5, 2) := by decide +kernel
theorem d355_702 : decode cL_law 702 = .ok (.iconst 2, 1) := by decide +kernel
theorem d355_703 : decode cL_law 703 = .ok (.iadd, 1) := by decide +kernel
theorem d355_704 : decode cL_law 704 = .ok (.iaload, 1) := by decide +kernel
theorem d355_705 : decode cL_law 705 = .ok (.aload_n 0, 1) := by decide +kernel
theorem d355_706 : decode cL_law 706 = .ok (.iload 5, 2) := by decide +kernel
theorem d355_708 : decode cL_law 708 = .ok (.iconst 3, 1) := by decide +kernel
theorem d355_709 : decode cL_law 709 = .ok (.iadd, 1) := by decide +kernel
theorem d355_710 : decode cL_law 710 = .ok (.iaload, 1) := by decide +kernel
theorem d355_711 : decode cL_law 711 = .ok (.invokevirtual 210, 3) := by decide +kernel
theorem d355_714 : decode cL_law 714 = .ok (.istore 7, 2) := by decide +kernel
theorem d355_716 : decode cL_law 716 = .ok (.aload_n 2, 1) := by decide +kernel
theorem d355_717 : decode cL_law 717 = .ok (.invokevirtual 194, 3) := by decide +kernel
theorem d355_720 : decode cL_law 720 = .ok (.iload 6, 2) := by decide +kernel
theorem d355_722 : decode cL_law 722 = .ok (.if_icmp .eq 5, 3) := by decide +kernel
theorem d355_725 : decode cL_law 725 = .ok (.iconst 0, 1) := by decide +kernel
theorem d355_726 : decode cL_law 726 = .ok (.ireturn, 1) := by decide +kernel
theorem d355_727 : decode cL_law 727 = .ok (.iload 6, 2) := by decide +kernel
theorem d355_729 : decode cL_law 729 = .ok (.ifCond .ne 15, 3) := by decide +kernel
theorem d355_732 : decode cL_law 732 = .ok (.aload_n 3, 1) := by decide +kernel
theorem d355_733 : decode cL_law 733 = .ok (.iconst 0, 1) := by decide +kernel
theorem d355_734 : decode cL_law 734 = .ok (.laload, 1) := by decide +kernel
theorem d355_735 : decode cL_law 735 = .ok (.iload 7, 2) := by decide +kernel
theorem d355_737 : decode cL_law 737 = .ok (.i2l, 1) := by decide +kernel
theorem d355_738 : decode cL_law 738 = .ok (.lcmp, 1) := by decide +kernel
theorem d355_739 : decode cL_law 739 = .ok (.ifCond .eq 5, 3) := by decide +kernel
theorem d355_742 : decode cL_law 742 = .ok (.iconst 0, 1) := by decide +kernel
theorem d355_743 : decode cL_law 743 = .ok (.ireturn, 1) := by decide +kernel
theorem d355_744 : decode cL_law 744 = .ok (.goto 2822, 3) := by decide +kernel
theorem d355_747 : decode cL_law 747 = .ok (.aload_n 1, 1) := by decide +kernel
theorem d355_748 : decode cL_law 748 = .ok (.aload_n 0, 1) := by decide +kernel
theorem d355_749 : decode cL_law 749 = .ok (.iload 5, 2) := by decide +kernel
theorem d355_751 : decode cL_law 751 = .ok (.iconst 1, 1) := by decide +kernel
theorem d355_752 : decode cL_law 752 = .ok (.iadd, 1) := by decide +kernel
theorem d355_753 : decode cL_law 753 = .ok (.iaload, 1) := by decide +kernel
theorem d355_754 : decode cL_law 754 = .ok (.aload_n 0, 1) := by decide +kernel
theorem d355_755 : decode cL_law 755 = .ok (.iload 5, 2) := by decide +kernel
theorem d355_757 : decode cL_law 757 = .ok (.iconst 2, 1) := by decide +kernel
theorem d355_758 : decode cL_law 758 = .ok (.iadd, 1) := by decide +kernel
theorem d355_759 : decode cL_law 759 = .ok (.iaload, 1) := by decide +kernel
theorem d355_760 : decode cL_law 760 = .ok (.aload_n 3, 1) := by decide +kernel
theorem d355_761 : decode cL_law 761 = .ok (.invokestatic 211, 3) := by decide +kernel
theorem d355_764 : decode cL_law 764 = .ok (.istore 6, 2) := by decide +kernel
theorem d355_766 : decode cL_law 766 = .ok (.aload_n 2, 1) := by decide +kernel
theorem d355_767 : decode cL_law 767 = .ok (.aload_n 0, 1) := by decide +kernel
theorem d355_768 : decode cL_law 768 = .ok (.iload 5, 2) := by decide +kernel
theorem d355_770 : decode cL_law 770 = .ok (.iconst 1, 1) := by decide +kernel
theorem d355_771 : decode cL_law 771 = .ok (.iadd, 1) := by decide +kernel
theorem d355_772 : decode cL_law 772 = .ok (.iaload, 1) := by decide +kernel
theorem d355_773 : decode cL_law 773 = .ok (.aload_n 0, 1) := by decide +kernel
theorem d355_774 : decode cL_law 774 = .ok (.iload 5, 2) := by decide +kernel
theorem d355_776 : decode cL_law 776 = .ok (.iconst 2, 1) := by decide +kernel
theorem d355_777 : decode cL_law 777 = .ok (.iadd, 1) := by decide +kernel
theorem d355_778 : decode cL_law 778 = .ok (.iaload, 1) := by decide +kernel
theorem d355_779 : decode cL_law 779 = .ok (.invokevirtual 213, 3) := by decide +kernel
theorem d355_782 : decode cL_law 782 = .ok (.istore 7, 2) := by decide +kernel
theorem d355_784 : decode cL_law 784 = .ok (.aload_n 2, 1) := by decide +kernel
theorem d355_785 : decode cL_law 785 = .ok (.invokevirtual 194, 3) := by decide +kernel
theorem d355_788 : decode cL_law 788 = .ok (.iload 6, 2) := by decide +kernel
theorem d355_790 : decode cL_law 790 = .ok (.if_icmp .eq 5, 3) := by decide +kernel
theorem d355_793 : decode cL_law 793 = .ok (.iconst 0, 1) := by decide +kernel
theorem d355_794 : decode cL_law 794 = .ok (.ireturn, 1) := by decide +kernel
theorem d355_795 : decode cL_law 795 = .ok (.iload 6, 2) := by decide +kernel
theorem d355_797 : decode cL_law 797 = .ok (.ifCond .ne 15, 3) := by decide +kernel
theorem d355_800 : decode cL_law 800 = .ok (.aload_n 3, 1) := by decide +kernel
theorem d355_801 : decode cL_law 801 = .ok (.iconst 0, 1) := by decide +kernel
theorem d355_802 : decode cL_law 802 = .ok (.laload, 1) := by decide +kernel
theorem d355_803 : decode cL_law 803 = .ok (.iload 7, 2) := by decide +kernel
theorem d355_805 : decode cL_law 805 = .ok (.i2l, 1) := by decide +kernel
theorem d355_806 : decode cL_law 806 = .ok (.lcmp, 1) := by decide +kernel
theorem d355_807 : decode cL_law 807 = .ok (.ifCond .eq 5, 3) := by decide +kernel
theorem d355_810 : decode cL_law 810 = .ok (.iconst 0, 1) := by decide +kernel
theorem d355_811 : decode cL_law 811 = .ok (.ireturn, 1) := by decide +kernel
theorem d355_812 : decode cL_law 812 = .ok (.goto 2754, 3) := by decide +kernel
theorem d355_815 : decode cL_law 815 = .ok (.aload_n 1, 1) := by decide +kernel
theorem d355_816 : decode cL_law 816 = .ok (.aload_n 0, 1) := by decide +kernel
theorem d355_817 : decode cL_law 817 = .ok (.iload 5, 2) := by decide +kernel
theorem d355_819 : decode cL_law 819 = .ok (.iconst 1, 1) := by decide +kernel
theorem d355_820 : decode cL_law 820 = .ok (.iadd, 1) := by decide +kernel
theorem d355_821 : decode cL_law 821 = .ok (.iaload, 1) := by decide +kernel
theorem d355_822 : decode cL_law 822 = .ok (.aload_n 3, 1) := by decide +kernel
theorem d355_823 : decode cL_law 823 = .ok (.invokestatic 214, 3) := by decide +kernel
theorem d355_826 : decode cL_law 826 = .ok (.istore 6, 2) := by decide +kernel
theorem d355_828 : decode cL_law 828 = .ok (.aload_n 2, 1) := by decide +kernel
theorem d355_829 : decode cL_law 829 = .ok (.aload_n 0, 1) := by decide +kernel
theorem d355_830 : decode cL_law 830 = .ok (.iload 5, 2) := by decide +kernel
theorem d355_832 : decode cL_law 832 = .ok (.iconst 1, 1) := by decide +kernel
theorem d355_833 : decode cL_law 833 = .ok (.iadd, 1) := by decide +kernel
theorem d355_834 : decode cL_law 834 = .ok (.iaload, 1) := by decide +kernel
theorem d355_835 : decode cL_law 835 = .ok (.invokevirtual 216, 3) := by decide +kernel
theorem d355_838 : decode cL_law 838 = .ok (.istore 7, 2) := by decide +kernel
theorem d355_840 : decode cL_law 840 = .ok (.aload_n 2, 1) := by decide +kernel
theorem d355_841 : decode cL_law 841 = .ok (.invokevirtual 194, 3) := by decide +kernel
theorem d355_844 : decode cL_law 844 = .ok (.iload 6, 2) := by decide +kernel
theorem d355_846 : decode cL_law 846 = .ok (.if_icmp .eq 5, 3) := by decide +kernel
theorem d355_849 : decode cL_law 849 = .ok (.iconst 0, 1) := by decide +kernel
theorem d355_850 : decode cL_law 850 = .ok (.ireturn, 1) := by decide +kernel
theorem d355_851 : decode cL_law 851 = .ok (.iload 6, 2) := by decide +kernel
theorem d355_853 : decode cL_law 853 = .ok (.ifCond .ne 15, 3) := by decide +kernel
theorem d355_856 : decode cL_law 856 = .ok (.aload_n 3, 1) := by decide +kernel
theorem d355_857 : decode cL_law 857 = .ok (.iconst 0, 1) := by decide +kernel
theorem d355_858 : decode cL_law 858 = .ok (.laload, 1) := by decide +kernel
theorem d355_859 : decode cL_law 859 = .ok (.iload 7, 2) := by decide +kernel
theorem d355_861 : decode cL_law 861 = .ok (.i2l, 1) := by decide +kernel
theorem d355_862 : decode cL_law 862 = .ok (.lcmp, 1) := by decide +kernel
theorem d355_863 : decode cL_law 863 = .ok (.ifCond .eq 5, 3) := by decide +kernel
theorem d355_866 : decode cL_law 866 = .ok (.iconst 0, 1) := by decide +kernel
theorem d355_867 : decode cL_law 867 = .ok (.ireturn, 1) := by decide +kernel
theorem d355_868 : decode cL_law 868 = .ok (.goto 2698, 3) := by decide +kernel
theorem d355_871 : decode cL_law 871 = .ok (.aload_n 1, 1) := by decide +kernel
theorem d355_872 : decode cL_law 872 = .ok (.aload_n 0, 1) := by decide +kernel
theorem d355_873 : decode cL_law 873 = .ok (.iload 5, 2) := by decide +kernel
theorem d355_875 : decode cL_law 875 = .ok (.iconst 1, 1) := by decide +kernel
theorem d355_876 : decode cL_law 876 = .ok (.iadd, 1) := by decide +kernel
theorem d355_877 : decode cL_law 877 = .ok (.iaload, 1) := by decide +kernel
theorem d355_878 : decode cL_law 878 = .ok (.aload_n 3, 1) := by decide +kernel
theorem d355_879 : decode cL_law 879 = .ok (.invokestatic 217, 3) := by decide +kernel
theorem d355_882 : decode cL_law 882 = .ok (.istore 6, 2) := by decide +kernel
theorem d355_884 : decode cL_law 884 = .ok (.aload_n 2, 1) := by decide +kernel
theorem d355_885 : decode cL_law 885 = .ok (.aload_n 0, 1) := by decide +kernel
theorem d355_886 : decode cL_law 886 = .ok (.iload 5, 2) := by decide +kernel
theorem d355_888 : decode cL_law 888 = .ok (.iconst 1, 1) := by decide +kernel
theorem d355_889 : decode cL_law 889 = .ok (.iadd, 1) := by decide +kernel
theorem d355_890 : decode cL_law 890 = .ok (.iaload, 1) := by decide +kernel
theorem d355_891 : decode cL_law 891 = .ok (.invokevirtual 219, 3) := by decide +kernel
theorem d355_894 : decode cL_law 894 = .ok (.istore 7, 2) := by decide +kernel
theorem d355_896 : decode cL_law 896 = .ok (.aload_n 2, 1) := by decide +kernel
theorem d355_897 : decode cL_law 897 = .ok (.invokevirtual 194, 3) := by decide +kernel
theorem d355_900 : decode cL_law 900 = .ok (.iload 6, 2) := by decide +kernel
theorem d355_902 : decode cL_law 902 = .ok (.if_icmp .eq 5, 3) := by decide +kernel
theorem d355_905 : decode cL_law 905 = .ok (.iconst 0, 1) := by decide +kernel
theorem d355_906 : decode cL_law 906 = .ok (.ireturn, 1) := by decide +kernel
theorem d355_907 : decode cL_law 907 = .ok (.iload 6, 2) := by decide +kernel
theorem d355_909 : decode cL_law 909 = .ok (.ifCond .ne 15, 3) := by decide +kernel
theorem d355_912 : decode cL_law 912 = .ok (.aload_n 3, 1) := by decide +kernel
theorem d355_913 : decode cL_law 913 = .ok (.iconst 0, 1) := by decide +kernel
theorem d355_914 : decode cL_law 914 = .ok (.laload, 1) := by decide +kernel
theorem d355_915 : decode cL_law 915 = .ok (.iload 7, 2) := by decide +kernel
theorem d355_917 : decode cL_law 917 = .ok (.i2l, 1) := by decide +kernel
theorem d355_918 : decode cL_law 918 = .ok (.lcmp, 1) := by decide +kernel
theorem d355_919 : decode cL_law 919 = .ok (.ifCond .eq 5, 3) := by decide +kernel
theorem d355_922 : decode cL_law 922 = .ok (.iconst 0, 1) := by decide +kernel
theorem d355_923 : decode cL_law 923 = .ok (.ireturn, 1) := by decide +kernel
theorem d355_924 : decode cL_law 924 = .ok (.goto 2642, 3) := by decide +kernel
theorem d355_927 : decode cL_law 927 = .ok (.aload_n 1, 1) := by decide +kernel
theorem d355_928 : decode cL_law 928 = .ok (.aload_n 0, 1) := by decide +kernel
theorem d355_929 : decode cL_law 929 = .ok (.iload 5, 2) := by decide +kernel
theorem d355_931 : decode cL_law 931 = .ok (.iconst 1, 1) := by decide +kernel
theorem d355_932 : decode cL_law 932 = .ok (.iadd, 1) := by decide +kernel
theorem d355_933 : decode cL_law 933 = .ok (.iaload, 1) := by decide +kernel
theorem d355_934 : decode cL_law 934 = .ok (.aload_n 0, 1) := by decide +kernel
theorem d355_935 : decode cL_law 935 = .ok (.iload 5, 2) := by decide +kernel
theorem d355_937 : decode cL_law 937 = .ok (.iconst 2, 1) := by decide +kernel
theorem d355_938 : decode cL_law 938 = .ok (.iadd, 1) := by decide +kernel
theorem d355_939 : decode cL_law 939 = .ok (.iaload, 1) := by decide +kernel
theorem d355_940 : decode cL_law 940 = .ok (.aload_n 0, 1) := by decide +kernel
theorem d355_941 : decode cL_law 941 = .ok (.iload 5, 2) := by decide +kernel
theorem d355_943 : decode cL_law 943 = .ok (.iconst 3, 1) := by decide +kernel
theorem d355_944 : decode cL_law 944 = .ok (.iadd, 1) := by decide +kernel
theorem d355_945 : decode cL_law 945 = .ok (.iaload, 1) := by decide +kernel
theorem d355_946 : decode cL_law 946 = .ok (.aload_n 3, 1) := by decide +kernel
theorem d355_947 : decode cL_law 947 = .ok (.invokestatic 220, 3) := by decide +kernel
theorem d355_950 : decode cL_law 950 = .ok (.istore 6, 2) := by decide +kernel
theorem d355_952 : decode cL_law 952 = .ok (.aload_n 2, 1) := by decide +kernel
theorem d355_953 : decode cL_law 953 = .ok (.aload_n 0, 1) := by decide +kernel
theorem d355_954 : decode cL_law 954 = .ok (.iload 5, 2) := by decide +kernel
theorem d355_956 : decode cL_law 956 = .ok (.iconst 1, 1) := by decide +kernel
theorem d355_957 : decode cL_law 957 = .ok (.iadd, 1) := by decide +kernel
theorem d355_958 : decode cL_law 958 = .ok (.iaload, 1) := by decide +kernel
theorem d355_959 : decode cL_law 959 = .ok (.aload_n 0, 1) := by decide +kernel
theorem d355_960 : decode cL_law 960 = .ok (.iload 5, 2) := by decide +kernel
theorem d355_962 : decode cL_law 962 = .ok (.iconst 2, 1) := by decide +kernel
theorem d355_963 : decode cL_law 963 = .ok (.iadd, 1) := by decide +kernel
theorem d355_964 : decode cL_law 964 = .ok (.iaload, 1) := by decide +kernel
theorem d355_965 : decode cL_law 965 = .ok (.aload_n 0, 1) := by decide +kernel
theorem d355_966 : decode cL_law 966 = .ok (.iload 5, 2) := by decide +kernel
theorem d355_968 : decode cL_law 968 = .ok (.iconst 3, 1) := by decide +kernel
theorem d355_969 : decode cL_law 969 = .ok (.iadd, 1) := by decide +kernel
theorem d355_970 : decode cL_law 970 = .ok (.iaload, 1) := by decide +kernel
theorem d355_971 : decode cL_law 971 = .ok (.invokevirtual 222, 3) := by decide +kernel
theorem d355_974 : decode cL_law 974 = .ok (.istore 7, 2) := by decide +kernel
theorem d355_976 : decode cL_law 976 = .ok (.aload_n 2, 1) := by decide +kernel
theorem d355_977 : decode cL_law 977 = .ok (.invokevirtual 194, 3) := by decide +kernel
theorem d355_980 : decode cL_law 980 = .ok (.iload 6, 2) := by decide +kernel
theorem d355_982 : decode cL_law 982 = .ok (.if_icmp .eq 5, 3) := by decide +kernel
theorem d355_985 : decode cL_law 985 = .ok (.iconst 0, 1) := by decide +kernel
theorem d355_986 : decode cL_law 986 = .ok (.ireturn, 1) := by decide +kernel
theorem d355_987 : decode cL_law 987 = .ok (.iload 6, 2) := by decide +kernel
theorem d355_989 : decode cL_law 989 = .ok (.ifCond .ne 15, 3) := by decide +kernel
theorem d355_992 : decode cL_law 992 = .ok (.aload_n 3, 1) := by decide +kernel
theorem d355_993 : decode cL_law 993 = .ok (.iconst 0, 1) := by decide +kernel
theorem d355_994 : decode cL_law 994 = .ok (.laload, 1) := by decide +kernel
theorem d355_995 : decode cL_law 995 = .ok (.iload 7, 2) := by decide +kernel
theorem d355_997 : decode cL_law 997 = .ok (.i2l, 1) := by decide +kernel
theorem d355_998 : decode cL_law 998 = .ok (.lcmp, 1) := by decide +kernel
theorem d355_999 : decode cL_law 999 = .ok (.ifCond .eq 5, 3) := by decide +kernel
theorem d355_1002 : decode cL_law 1002 = .ok (.iconst 0, 1) := by decide +kernel
theorem d355_1003 : decode cL_law 1003 = .ok (.ireturn, 1) := by decide +kernel
theorem d355_1004 : decode cL_law 1004 = .ok (.goto 2562, 3) := by decide +kernel
theorem d355_1007 : decode cL_law 1007 = .ok (.aload_n 1, 1) := by decide +kernel
theorem d355_1008 : decode cL_law 1008 = .ok (.aload_n 0, 1) := by decide +kernel
theorem d355_1009 : decode cL_law 1009 = .ok (.iload 5, 2) := by decide +kernel
theorem d355_1011 : decode cL_law 1011 = .ok (.iconst 1, 1) := by decide +kernel
theorem d355_1012 : decode cL_law 1012 = .ok (.iadd, 1) := by decide +kernel
theorem d355_1013 : decode cL_law 1013 = .ok (.iaload, 1) := by decide +kernel
theorem d355_1014 : decode cL_law 1014 = .ok (.aload_n 0, 1) := by decide +kernel
theorem d355_1015 : decode cL_law 1015 = .ok (.iload 5, 2) := by decide +kernel
theorem d355_1017 : decode cL_law 1017 = .ok (.iconst 2, 1) := by decide +kernel
theorem d355_1018 : decode cL_law 1018 = .ok (.iadd, 1) := by decide +kernel
theorem d355_1019 : decode cL_law 1019 = .ok (.iaload, 1) := by decide +kernel
theorem d355_1020 : decode cL_law 1020 = .ok (.aload_n 3, 1) := by decide +kernel
theorem d355_1021 : decode cL_law 1021 = .ok (.invokestatic 223, 3) := by decide +kernel
theorem d355_1024 : decode cL_law 1024 = .ok (.istore 6, 2) := by decide +kernel
theorem d355_1026 : decode cL_law 1026 = .ok (.aload_n 2, 1) := by decide +kernel
theorem d355_1027 : decode cL_law 1027 = .ok (.aload_n 0, 1) := by decide +kernel
theorem d355_1028 : decode cL_law 1028 = .ok (.iload 5, 2) := by decide +kernel
theorem d355_1030 : decode cL_law 1030 = .ok (.iconst 1, 1) := by decide +kernel
theorem d355_1031 : decode cL_law 1031 = .ok (.iadd, 1) := by decide +kernel
theorem d355_1032 : decode cL_law 1032 = .ok (.iaload, 1) := by decide +kernel
theorem d355_1033 : decode cL_law 1033 = .ok (.aload_n 0, 1) := by decide +kernel
theorem d355_1034 : decode cL_law 1034 = .ok (.iload 5, 2) := by decide +kernel
theorem d355_1036 : decode cL_law 1036 = .ok (.iconst 2, 1) := by decide +kernel
theorem d355_1037 : decode cL_law 1037 = .ok (.iadd, 1) := by decide +kernel
theorem d355_1038 : decode cL_law 1038 = .ok (.iaload, 1) := by decide +kernel
theorem d355_1039 : decode cL_law 1039 = .ok (.invokevirtual 225, 3) := by decide +kernel
theorem d355_1042 : decode cL_law 1042 = .ok (.istore 7, 2) := by decide +kernel
theorem d355_1044 : decode cL_law 1044 = .ok (.aload_n 2, 1) := by decide +kernel
theorem d355_1045 : decode cL_law 1045 = .ok (.invokevirtual 194, 3) := by decide +kernel
theorem d355_1048 : decode cL_law 1048 = .ok (.iload 6, 2) := by decide +kernel
theorem d355_1050 : decode cL_law 1050 = .ok (.if_icmp .eq 5, 3) := by decide +kernel
theorem d355_1053 : decode cL_law 1053 = .ok (.iconst 0, 1) := by decide +kernel
theorem d355_1054 : decode cL_law 1054 = .ok (.ireturn, 1) := by decide +kernel
theorem d355_1055 : decode cL_law 1055 = .ok (.iload 6, 2) := by decide +kernel
theorem d355_1057 : decode cL_law 1057 = .ok (.ifCond .ne 15, 3) := by decide +kernel
theorem d355_1060 : decode cL_law 1060 = .ok (.aload_n 3, 1) := by decide +kernel
theorem d355_1061 : decode cL_law 1061 = .ok (.iconst 0, 1) := by decide +kernel
theorem d355_1062 : decode cL_law 1062 = .ok (.laload, 1) := by decide +kernel
theorem d355_1063 : decode cL_law 1063 = .ok (.iload 7, 2) := by decide +kernel
theorem d355_1065 : decode cL_law 1065 = .ok (.i2l, 1) := by decide +kernel
theorem d355_1066 : decode cL_law 1066 = .ok (.lcmp, 1) := by decide +kernel
theorem d355_1067 : decode cL_law 1067 = .ok (.ifCond .eq 5, 3) := by decide +kernel
theorem d355_1070 : decode cL_law 1070 = .ok (.iconst 0, 1) := by decide +kernel
theorem d355_1071 : decode cL_law 1071 = .ok (.ireturn, 1) := by decide +kernel
theorem d355_1072 : decode cL_law 1072 = .ok (.goto 2494, 3) := by decide +kernel
theorem d355_1075 : decode cL_law 1075 = .ok (.aload_n 1, 1) := by decide +kernel
theorem d355_1076 : decode cL_law 1076 = .ok (.aload_n 0, 1) := by decide +kernel
theorem d355_1077 : decode cL_law 1077 = .ok (.iload 5, 2) := by decide +kernel
theorem d355_1079 : decode cL_law 1079 = .ok (.iconst 1, 1) := by decide +kernel
theorem d355_1080 : decode cL_law 1080 = .ok (.iadd, 1) := by decide +kernel
theorem d355_1081 : decode cL_law 1081 = .ok (.iaload, 1) := by decide +kernel
theorem d355_1082 : decode cL_law 1082 = .ok (.aload_n 3, 1) := by decide +kernel
theorem d355_1083 : decode cL_law 1083 = .ok (.invokestatic 226, 3) := by decide +kernel
theorem d355_1086 : decode cL_law 1086 = .ok (.istore 6, 2) := by decide +kernel
theorem d355_1088 : decode cL_law 1088 = .ok (.aload_n 2, 1) := by decide +kernel
theorem d355_1089 : decode cL_law 1089 = .ok (.aload_n 0, 1) := by decide +kernel
theorem d355_1090 : decode cL_law 1090 = .ok (.iload 5, 2) := by decide +kernel
theorem d355_1092 : decode cL_law 1092 = .ok (.iconst 1, 1) := by decide +kernel
theorem d355_1093 : decode cL_law 1093 = .ok (.iadd, 1) := by decide +kernel
theorem d355_1094 : decode cL_law 1094 = .ok (.iaload, 1) := by decide +kernel
theorem d355_1095 : decode cL_law 1095 = .ok (.invokevirtual 228, 3) := by decide +kernel
theorem d355_1098 : decode cL_law 1098 = .ok (.istore 7, 2) := by decide +kernel
theorem d355_1100 : decode cL_law 1100 = .ok (.aload_n 2, 1) := by decide +kernel
theorem d355_1101 : decode cL_law 1101 = .ok (.invokevirtual 194, 3) := by decide +kernel
theorem d355_1104 : decode cL_law 1104 = .ok (.iload 6, 2) := by decide +kernel
theorem d355_1106 : decode cL_law 1106 = .ok (.if_icmp .eq 5, 3) := by decide +kernel
theorem d355_1109 : decode cL_law 1109 = .ok (.iconst 0, 1) := by decide +kernel
theorem d355_1110 : decode cL_law 1110 = .ok (.ireturn, 1) := by decide +kernel
theorem d355_1111 : decode cL_law 1111 = .ok (.iload 6, 2) := by decide +kernel
theorem d355_1113 : decode cL_law 1113 = .ok (.ifCond .ne 15, 3) := by decide +kernel
theorem d355_1116 : decode cL_law 1116 = .ok (.aload_n 3, 1) := by decide +kernel
theorem d355_1117 : decode cL_law 1117 = .ok (.iconst 0, 1) := by decide +kernel
theorem d355_1118 : decode cL_law 1118 = .ok (.laload, 1) := by decide +kernel
theorem d355_1119 : decode cL_law 1119 = .ok (.iload 7, 2) := by decide +kernel
theorem d355_1121 : decode cL_law 1121 = .ok (.i2l, 1) := by decide +kernel
theorem d355_1122 : decode cL_law 1122 = .ok (.lcmp, 1) := by decide +kernel
theorem d355_1123 : decode cL_law 1123 = .ok (.ifCond .eq 5, 3) := by decide +kernel
theorem d355_1126 : decode cL_law 1126 = .ok (.iconst 0, 1) := by decide +kernel
theorem d355_1127 : decode cL_law 1127 = .ok (.ireturn, 1) := by decide +kernel
theorem d355_1128 : decode cL_law 1128 = .ok (.goto 2438, 3) := by decide +kernel
theorem d355_1131 : decode cL_law 1131 = .ok (.aload_n 1, 1) := by decide +kernel
theorem d355_1132 : decode cL_law 1132 = .ok (.aload_n 0, 1) := by decide +kernel
theorem d355_1133 : decode cL_law 1133 = .ok (.iload 5, 2) := by decide +kernel
theorem d355_1135 : decode cL_law 1135 = .ok (.iconst 1, 1) := by decide +kernel
theorem d355_1136 : decode cL_law 1136 = .ok (.iadd, 1) := by decide +kernel
theorem d355_1137 : decode cL_law 1137 = .ok (.iaload, 1) := by decide +kernel
theorem d355_1138 : decode cL_law 1138 = .ok (.aload_n 3, 1) := by decide +kernel
theorem d355_1139 : decode cL_law 1139 = .ok (.invokestatic 229, 3) := by decide +kernel
theorem d355_1142 : decode cL_law 1142 = .ok (.istore 6, 2) := by decide +kernel
theorem d355_1144 : decode cL_law 1144 = .ok (.aload_n 2, 1) := by decide +kernel
theorem d355_1145 : decode cL_law 1145 = .ok (.aload_n 0, 1) := by decide +kernel
theorem d355_1146 : decode cL_law 1146 = .ok (.iload 5, 2) := by decide +kernel
theorem d355_1148 : decode cL_law 1148 = .ok (.iconst 1, 1) := by decide +kernel
theorem d355_1149 : decode cL_law 1149 = .ok (.iadd, 1) := by decide +kernel
theorem d355_1150 : decode cL_law 1150 = .ok (.iaload, 1) := by decide +kernel
theorem d355_1151 : decode cL_law 1151 = .ok (.invokevirtual 231, 3) := by decide +kernel
theorem d355_1154 : decode cL_law 1154 = .ok (.istore 7, 2) := by decide +kernel
theorem d355_1156 : decode cL_law 1156 = .ok (.aload_n 2, 1) := by decide +kernel
theorem d355_1157 : decode cL_law 1157 = .ok (.invokevirtual 194, 3) := by decide +kernel
theorem d355_1160 : decode cL_law 1160 = .ok (.iload 6, 2) := by decide +kernel
theorem d355_1162 : decode cL_law 1162 = .ok (.if_icmp .eq 5, 3) := by decide +kernel
theorem d355_1165 : decode cL_law 1165 = .ok (.iconst 0, 1) := by decide +kernel
theorem d355_1166 : decode cL_law 1166 = .ok (.ireturn, 1) := by decide +kernel
theorem d355_1167 : decode cL_law 1167 = .ok (.iload 6, 2) := by decide +kernel
theorem d355_1169 : decode cL_law 1169 = .ok (.ifCond .ne 15, 3) := by decide +kernel
theorem d355_1172 : decode cL_law 1172 = .ok (.aload_n 3, 1) := by decide +kernel
theorem d355_1173 : decode cL_law 1173 = .ok (.iconst 0, 1) := by decide +kernel
theorem d355_1174 : decode cL_law 1174 = .ok (.laload, 1) := by decide +kernel
theorem d355_1175 : decode cL_law 1175 = .ok (.iload 7, 2) := by decide +kernel
theorem d355_1177 : decode cL_law 1177 = .ok (.i2l, 1) := by decide +kernel
theorem d355_1178 : decode cL_law 1178 = .ok (.lcmp, 1) := by decide +kernel
theorem d355_1179 : decode cL_law 1179 = .ok (.ifCond .eq 5, 3) := by decide +kernel
theorem d355_1182 : decode cL_law 1182 = .ok (.iconst 0, 1) := by decide +kernel
theorem d355_1183 : decode cL_law 1183 = .ok (.ireturn, 1) := by decide +kernel
theorem d355_1184 : decode cL_law 1184 = .ok (.goto 2382, 3) := by decide +kernel
theorem d355_1187 : decode cL_law 1187 = .ok (.aload_n 1, 1) := by decide +kernel
theorem d355_1188 : decode cL_law 1188 = .ok (.aload_n 0, 1) := by decide +kernel
theorem d355_1189 : decode cL_law 1189 = .ok (.iload 5, 2) := by decide +kernel
theorem d355_1191 : decode cL_law 1191 = .ok (.iconst 1, 1) := by decide +kernel
theorem d355_1192 : decode cL_law 1192 = .ok (.iadd, 1) := by decide +kernel
theorem d355_1193 : decode cL_law 1193 = .ok (.iaload, 1) := by decide +kernel
theorem d355_1194 : decode cL_law 1194 = .ok (.aload_n 3, 1) := by decide +kernel
theorem d355_1195 : decode cL_law 1195 = .ok (.invokestatic 232, 3) := by decide +kernel
theorem d355_1198 : decode cL_law 1198 = .ok (.istore 6, 2) := by decide +kernel
theorem d355_1200 : decode cL_law 1200 = .ok (.aload_n 2, 1) := by decide +kernel
theorem d355_1201 : decode cL_law 1201 = .ok (.aload_n 0, 1) := by decide +kernel
theorem d355_1202 : decode cL_law 1202 = .ok (.iload 5, 2) := by decide +kernel
theorem d355_1204 : decode cL_law 1204 = .ok (.iconst 1, 1) := by decide +kernel
theorem d355_1205 : decode cL_law 1205 = .ok (.iadd, 1) := by decide +kernel
theorem d355_1206 : decode cL_law 1206 = .ok (.iaload, 1) := by decide +kernel
theorem d355_1207 : decode cL_law 1207 = .ok (.invokevirtual 234, 3) := by decide +kernel
theorem d355_1210 : decode cL_law 1210 = .ok (.istore 7, 2) := by decide +kernel
theorem d355_1212 : decode cL_law 1212 = .ok (.aload_n 2, 1) := by decide +kernel
theorem d355_1213 : decode cL_law 1213 = .ok (.invokevirtual 194, 3) := by decide +kernel
theorem d355_1216 : decode cL_law 1216 = .ok (.iload 6, 2) := by decide +kernel
theorem d355_1218 : decode cL_law 1218 = .ok (.if_icmp .eq 5, 3) := by decide +kernel
theorem d355_1221 : decode cL_law 1221 = .ok (.iconst 0, 1) := by decide +kernel
theorem d355_1222 : decode cL_law 1222 = .ok (.ireturn, 1) := by decide +kernel
theorem d355_1223 : decode cL_law 1223 = .ok (.iload 6, 2) := by decide +kernel
theorem d355_1225 : decode cL_law 1225 = .ok (.ifCond .ne 22, 3) := by decide +kernel
theorem d355_1228 : decode cL_law 1228 = .ok (.aload_n 3, 1) := by decide +kernel
theorem d355_1229 : decode cL_law 1229 = .ok (.iconst 0, 1) := by decide +kernel
theorem d355_1230 : decode cL_law 1230 = .ok (.laload, 1) := by decide +kernel
theorem d355_1231 : decode cL_law 1231 = .ok (.iload 7, 2) := by decide +kernel
theorem d355_1233 : decode cL_law 1233 = .ok (.ifCond .eq 7, 3) := by decide +kernel
theorem d355_1236 : decode cL_law 1236 = .ok (.lconst 1, 1) := by decide +kernel
theorem d355_1237 : decode cL_law 1237 = .ok (.goto 4, 3) := by decide +kernel
theorem d355_1240 : decode cL_law 1240 = .ok (.lconst 0, 1) := by decide +kernel
theorem d355_1241 : decode cL_law 1241 = .ok (.lcmp, 1) := by decide +kernel
theorem d355_1242 : decode cL_law 1242 = .ok (.ifCond .eq 5, 3) := by decide +kernel
theorem d355_1245 : decode cL_law 1245 = .ok (.iconst 0, 1) := by decide +kernel
theorem d355_1246 : decode cL_law 1246 = .ok (.ireturn, 1) := by decide +kernel
theorem d355_1247 : decode cL_law 1247 = .ok (.goto 2319, 3) := by decide +kernel
theorem d355_1250 : decode cL_law 1250 = .ok (.aload_n 1, 1) := by decide +kernel
theorem d355_1251 : decode cL_law 1251 = .ok (.aload_n 0, 1) := by decide +kernel
theorem d355_1252 : decode cL_law 1252 = .ok (.iload 5, 2) := by decide +kernel
theorem d355_1254 : decode cL_law 1254 = .ok (.iconst 1, 1) := by decide +kernel
theorem d355_1255 : decode cL_law 1255 = .ok (.iadd, 1) := by decide +kernel
theorem d355_1256 : decode cL_law 1256 = .ok (.iaload, 1) := by decide +kernel
theorem d355_1257 : decode cL_law 1257 = .ok (.aload_n 3, 1) := by decide +kernel
theorem d355_1258 : decode cL_law 1258 = .ok (.invokestatic 235, 3) := by decide +kernel
theorem d355_1261 : decode cL_law 1261 = .ok (.istore 6, 2) := by decide +kernel
theorem d355_1263 : decode cL_law 1263 = .ok (.aload_n 2, 1) := by decide +kernel
theorem d355_1264 : decode cL_law 1264 = .ok (.aload_n 0, 1) := by decide +kernel
theorem d355_1265 : decode cL_law 1265 = .ok (.iload 5, 2) := by decide +kernel
theorem d355_1267 : decode cL_law 1267 = .ok (.iconst 1, 1) := by decide +kernel
theorem d355_1268 : decode cL_law 1268 = .ok (.iadd, 1) := by decide +kernel
theorem d355_1269 : decode cL_law 1269 = .ok (.iaload, 1) := by decide +kernel
theorem d355_1270 : decode cL_law 1270 = .ok (.invokevirtual 237, 3) := by decide +kernel
theorem d355_1273 : decode cL_law 1273 = .ok (.istore 7, 2) := by decide +kernel
theorem d355_1275 : decode cL_law 1275 = .ok (.aload_n 2, 1) := by decide +kernel
theorem d355_1276 : decode cL_law 1276 = .ok (.invokevirtual 194, 3) := by decide +kernel
theorem d355_1279 : decode cL_law 1279 = .ok (.iload 6, 2) := by decide +kernel
theorem d355_1281 : decode cL_law 1281 = .ok (.if_icmp .eq 5, 3) := by decide +kernel
theorem d355_1284 : decode cL_law 1284 = .ok (.iconst 0, 1) := by decide +kernel
theorem d355_1285 : decode cL_law 1285 = .ok (.ireturn, 1) := by decide +kernel
theorem d355_1286 : decode cL_law 1286 = .ok (.iload 6, 2) := by decide +kernel
theorem d355_1288 : decode cL_law 1288 = .ok (.ifCond .ne 15, 3) := by decide +kernel
theorem d355_1291 : decode cL_law 1291 = .ok (.aload_n 3, 1) := by decide +kernel
theorem d355_1292 : decode cL_law 1292 = .ok (.iconst 0, 1) := by decide +kernel
theorem d355_1293 : decode cL_law 1293 = .ok (.laload, 1) := by decide +kernel
theorem d355_1294 : decode cL_law 1294 = .ok (.iload 7, 2) := by decide +kernel
theorem d355_1296 : decode cL_law 1296 = .ok (.i2l, 1) := by decide +kernel
theorem d355_1297 : decode cL_law 1297 = .ok (.lcmp, 1) := by decide +kernel
theorem d355_1298 : decode cL_law 1298 = .ok (.ifCond .eq 5, 3) := by decide +kernel
theorem d355_1301 : decode cL_law 1301 = .ok (.iconst 0, 1) := by decide +kernel
theorem d355_1302 : decode cL_law 1302 = .ok (.ireturn, 1) := by decide +kernel
theorem d355_1303 : decode cL_law 1303 = .ok (.goto 2263, 3) := by decide +kernel
theorem d355_1306 : decode cL_law 1306 = .ok (.aload_n 1, 1) := by decide +kernel
theorem d355_1307 : decode cL_law 1307 = .ok (.aload_n 0, 1) := by decide +kernel
theorem d355_1308 : decode cL_law 1308 = .ok (.iload 5, 2) := by decide +kernel
theorem d355_1310 : decode cL_law 1310 = .ok (.iconst 1, 1) := by decide +kernel
theorem d355_1311 : decode cL_law 1311 = .ok (.iadd, 1) := by decide +kernel
theorem d355_1312 : decode cL_law 1312 = .ok (.iaload, 1) := by decide +kernel
theorem d355_1313 : decode cL_law 1313 = .ok (.aload_n 3, 1) := by decide +kernel
theorem d355_1314 : decode cL_law 1314 = .ok (.invokestatic 238, 3) := by decide +kernel
theorem d355_1317 : decode cL_law 1317 = .ok (.istore 6, 2) := by decide +kernel
theorem d355_1319 : decode cL_law 1319 = .ok (.aload_n 2, 1) := by decide +kernel
theorem d355_1320 : decode cL_law 1320 = .ok (.aload_n 0, 1) := by decide +kernel
theorem d355_1321 : decode cL_law 1321 = .ok (.iload 5, 2) := by decide +kernel
theorem d355_1323 : decode cL_law 1323 = .ok (.iconst 1, 1) := by decide +kernel
theorem d355_1324 : decode cL_law 1324 = .ok (.iadd, 1) := by decide +kernel
theorem d355_1325 : decode cL_law 1325 = .ok (.iaload, 1) := by decide +kernel
theorem d355_1326 : decode cL_law 1326 = .ok (.invokevirtual 240, 3) := by decide +kernel
theorem d355_1329 : decode cL_law 1329 = .ok (.istore 7, 2) := by decide +kernel
theorem d355_1331 : decode cL_law 1331 = .ok (.aload_n 2, 1) := by decide +kernel
theorem d355_1332 : decode cL_law 1332 = .ok (.invokevirtual 194, 3) := by decide +kernel
theorem d355_1335 : decode cL_law 1335 = .ok (.iload 6, 2) := by decide +kernel
theorem d355_1337 : decode cL_law 1337 = .ok (.if_icmp .eq 5, 3) := by decide +kernel
theorem d355_1340 : decode cL_law 1340 = .ok (.iconst 0, 1) := by decide +kernel
theorem d355_1341 : decode cL_law 1341 = .ok (.ireturn, 1) := by decide +kernel
theorem d355_1342 : decode cL_law 1342 = .ok (.iload 6, 2) := by decide +kernel
theorem d355_1344 : decode cL_law 1344 = .ok (.ifCond .ne 15, 3) := by decide +kernel
theorem d355_1347 : decode cL_law 1347 = .ok (.aload_n 3, 1) := by decide +kernel
theorem d355_1348 : decode cL_law 1348 = .ok (.iconst 0, 1) := by decide +kernel
theorem d355_1349 : decode cL_law 1349 = .ok (.laload, 1) := by decide +kernel
theorem d355_1350 : decode cL_law 1350 = .ok (.iload 7, 2) := by decide +kernel
theorem d355_1352 : decode cL_law 1352 = .ok (.i2l, 1) := by decide +kernel
theorem d355_1353 : decode cL_law 1353 = .ok (.lcmp, 1) := by decide +kernel
theorem d355_1354 : decode cL_law 1354 = .ok (.ifCond .eq 5, 3) := by decide +kernel
theorem d355_1357 : decode cL_law 1357 = .ok (.iconst 0, 1) := by decide +kernel
theorem d355_1358 : decode cL_law 1358 = .ok (.ireturn, 1) := by decide +kernel
theorem d355_1359 : decode cL_law 1359 = .ok (.goto 2207, 3) := by decide +kernel
theorem d355_1362 : decode cL_law 1362 = .ok (.aload_n 1, 1) := by decide +kernel
theorem d355_1363 : decode cL_law 1363 = .ok (.aload_n 0, 1) := by decide +kernel
theorem d355_1364 : decode cL_law 1364 = .ok (.iload 5, 2) := by decide +kernel
theorem d355_1366 : decode cL_law 1366 = .ok (.iconst 1, 1) := by decide +kernel
theorem d355_1367 : decode cL_law 1367 = .ok (.iadd, 1) := by decide +kernel
theorem d355_1368 : decode cL_law 1368 = .ok (.iaload, 1) := by decide +kernel
theorem d355_1369 : decode cL_law 1369 = .ok (.aload_n 3, 1) := by decide +kernel
theorem d355_1370 : decode cL_law 1370 = .ok (.invokestatic 241, 3) := by decide +kernel
theorem d355_1373 : decode cL_law 1373 = .ok (.istore 6, 2) := by decide +kernel
theorem d355_1375 : decode cL_law 1375 = .ok (.aload_n 2, 1) := by decide +kernel
theorem d355_1376 : decode cL_law 1376 = .ok (.aload_n 0, 1) := by decide +kernel
theorem d355_1377 : decode cL_law 1377 = .ok (.iload 5, 2) := by decide +kernel
theorem d355_1379 : decode cL_law 1379 = .ok (.iconst 1, 1) := by decide +kernel
theorem d355_1380 : decode cL_law 1380 = .ok (.iadd, 1) := by decide +kernel
theorem d355_1381 : decode cL_law 1381 = .ok (.iaload, 1) := by decide +kernel
theorem d355_1382 : decode cL_law 1382 = .ok (.invokevirtual 243, 3) := by decide +kernel
theorem d355_1385 : decode cL_law 1385 = .ok (.istore 7, 2) := by decide +kernel
theorem d355_1387 : decode cL_law 1387 = .ok (.aload_n 2, 1) := by decide +kernel
theorem d355_1388 : decode cL_law 1388 = .ok (.invokevirtual 194, 3) := by decide +kernel
theorem d355_1391 : decode cL_law 1391 = .ok (.iload 6, 2) := by decide +kernel
theorem d355_1393 : decode cL_law 1393 = .ok (.if_icmp .eq 5, 3) := by decide +kernel
theorem d355_1396 : decode cL_law 1396 = .ok (.iconst 0, 1) := by decide +kernel
theorem d355_1397 : decode cL_law 1397 = .ok (.ireturn, 1) := by decide +kernel
theorem d355_1398 : decode cL_law 1398 = .ok (.iload 6, 2) := by decide +kernel
theorem d355_1400 : decode cL_law 1400 = .ok (.ifCond .ne 15, 3) := by decide +kernel
theorem d355_1403 : decode cL_law 1403 = .ok (.aload_n 3, 1) := by decide +kernel
theorem d355_1404 : decode cL_law 1404 = .ok (.iconst 0, 1) := by decide +kernel
theorem d355_1405 : decode cL_law 1405 = .ok (.laload, 1) := by decide +kernel
theorem d355_1406 : decode cL_law 1406 = .ok (.iload 7, 2) := by decide +kernel
theorem d355_1408 : decode cL_law 1408 = .ok (.i2l, 1) := by decide +kernel
theorem d355_1409 : decode cL_law 1409 = .ok (.lcmp, 1) := by decide +kernel
theorem d355_1410 : decode cL_law 1410 = .ok (.ifCond .eq 5, 3) := by decide +kernel
theorem d355_1413 : decode cL_law 1413 = .ok (.iconst 0, 1) := by decide +kernel
theorem d355_1414 : decode cL_law 1414 = .ok (.ireturn, 1) := by decide +kernel
theorem d355_1415 : decode cL_law 1415 = .ok (.goto 2151, 3) := by decide +kernel
theorem d355_1418 : decode cL_law 1418 = .ok (.aload_n 1, 1) := by decide +kernel
theorem d355_1419 : decode cL_law 1419 = .ok (.aload_n 0, 1) := by decide +kernel
theorem d355_1420 : decode cL_law 1420 = .ok (.iload 5, 2) := by decide +kernel
theorem d355_1422 : decode cL_law 1422 = .ok (.iconst 1, 1) := by decide +kernel
theorem d355_1423 : decode cL_law 1423 = .ok (.iadd, 1) := by decide +kernel
theorem d355_1424 : decode cL_law 1424 = .ok (.iaload, 1) := by decide +kernel
theorem d355_1425 : decode cL_law 1425 = .ok (.aload_n 3, 1) := by decide +kernel
theorem d355_1426 : decode cL_law 1426 = .ok (.invokestatic 244, 3) := by decide +kernel
theorem d355_1429 : decode cL_law 1429 = .ok (.istore 6, 2) := by decide +kernel
theorem d355_1431 : decode cL_law 1431 = .ok (.aload_n 2, 1) := by decide +kernel
theorem d355_1432 : decode cL_law 1432 = .ok (.aload_n 0, 1) := by decide +kernel
theorem d355_1433 : decode cL_law 1433 = .ok (.iload 5, 2) := by decide +kernel
theorem d355_1435 : decode cL_law 1435 = .ok (.iconst 1, 1) := by decide +kernel
theorem d355_1436 : decode cL_law 1436 = .ok (.iadd, 1) := by decide +kernel
theorem d355_1437 : decode cL_law 1437 = .ok (.iaload, 1) := by decide +kernel
theorem d355_1438 : decode cL_law 1438 = .ok (.invokevirtual 246, 3) := by decide +kernel
theorem d355_1441 : decode cL_law 1441 = .ok (.istore 7, 2) := by decide +kernel
theorem d355_1443 : decode cL_law 1443 = .ok (.aload_n 2, 1) := by decide +kernel
theorem d355_1444 : decode cL_law 1444 = .ok (.invokevirtual 194, 3) := by decide +kernel
theorem d355_1447 : decode cL_law 1447 = .ok (.iload 6, 2) := by decide +kernel
theorem d355_1449 : decode cL_law 1449 = .ok (.if_icmp .eq 5, 3) := by decide +kernel
theorem d355_1452 : decode cL_law 1452 = .ok (.iconst 0, 1) := by decide +kernel
theorem d355_1453 : decode cL_law 1453 = .ok (.ireturn, 1) := by decide +kernel
theorem d355_1454 : decode cL_law 1454 = .ok (.iload 6, 2) := by decide +kernel
theorem d355_1456 : decode cL_law 1456 = .ok (.ifCond .ne 15, 3) := by decide +kernel
theorem d355_1459 : decode cL_law 1459 = .ok (.aload_n 3, 1) := by decide +kernel
theorem d355_1460 : decode cL_law 1460 = .ok (.iconst 0, 1) := by decide +kernel
theorem d355_1461 : decode cL_law 1461 = .ok (.laload, 1) := by decide +kernel
theorem d355_1462 : decode cL_law 1462 = .ok (.iload 7, 2) := by decide +kernel
theorem d355_1464 : decode cL_law 1464 = .ok (.i2l, 1) := by decide +kernel
theorem d355_1465 : decode cL_law 1465 = .ok (.lcmp, 1) := by decide +kernel
theorem d355_1466 : decode cL_law 1466 = .ok (.ifCond .eq 5, 3) := by decide +kernel
theorem d355_1469 : decode cL_law 1469 = .ok (.iconst 0, 1) := by decide +kernel
theorem d355_1470 : decode cL_law 1470 = .ok (.ireturn, 1) := by decide +kernel
theorem d355_1471 : decode cL_law 1471 = .ok (.goto 2095, 3) := by decide +kernel
theorem d355_1474 : decode cL_law 1474 = .ok (.aload_n 1, 1) := by decide +kernel
theorem d355_1475 : decode cL_law 1475 = .ok (.aload_n 0, 1) := by decide +kernel
theorem d355_1476 : decode cL_law 1476 = .ok (.iload 5, 2) := by decide +kernel
theorem d355_1478 : decode cL_law 1478 = .ok (.iconst 1, 1) := by decide +kernel
theorem d355_1479 : decode cL_law 1479 = .ok (.iadd, 1) := by decide +kernel
theorem d355_1480 : decode cL_law 1480 = .ok (.iaload, 1) := by decide +kernel
theorem d355_1481 : decode cL_law 1481 = .ok (.aload_n 3, 1) := by decide +kernel
theorem d355_1482 : decode cL_law 1482 = .ok (.invokestatic 247, 3) := by decide +kernel
theorem d355_1485 : decode cL_law 1485 = .ok (.istore 6, 2) := by decide +kernel
theorem d355_1487 : decode cL_law 1487 = .ok (.aload_n 2, 1) := by decide +kernel
theorem d355_1488 : decode cL_law 1488 = .ok (.aload_n 0, 1) := by decide +kernel
theorem d355_1489 : decode cL_law 1489 = .ok (.iload 5, 2) := by decide +kernel
theorem d355_1491 : decode cL_law 1491 = .ok (.iconst 1, 1) := by decide +kernel
theorem d355_1492 : decode cL_law 1492 = .ok (.iadd, 1) := by decide +kernel
theorem d355_1493 : decode cL_law 1493 = .ok (.iaload, 1) := by decide +kernel
theorem d355_1494 : decode cL_law 1494 = .ok (.invokevirtual 249, 3) := by decide +kernel
theorem d355_1497 : decode cL_law 1497 = .ok (.istore 7, 2) := by decide +kernel
theorem d355_1499 : decode cL_law 1499 = .ok (.aload_n 2, 1) := by decide +kernel
theorem d355_1500 : decode cL_law 1500 = .ok (.invokevirtual 194, 3) := by decide +kernel
theorem d355_1503 : decode cL_law 1503 = .ok (.iload 6, 2) := by decide +kernel
theorem d355_1505 : decode cL_law 1505 = .ok (.if_icmp .eq 5, 3) := by decide +kernel
theorem d355_1508 : decode cL_law 1508 = .ok (.iconst 0, 1) := by decide +kernel
theorem d355_1509 : decode cL_law 1509 = .ok (.ireturn, 1) := by decide +kernel
theorem d355_1510 : decode cL_law 1510 = .ok (.iload 6, 2) := by decide +kernel
theorem d355_1512 : decode cL_law 1512 = .ok (.ifCond .ne 15, 3) := by decide +kernel
theorem d355_1515 : decode cL_law 1515 = .ok (.aload_n 3, 1) := by decide +kernel
theorem d355_1516 : decode cL_law 1516 = .ok (.iconst 0, 1) := by decide +kernel
theorem d355_1517 : decode cL_law 1517 = .ok (.laload, 1) := by decide +kernel
theorem d355_1518 : decode cL_law 1518 = .ok (.iload 7, 2) := by decide +kernel
theorem d355_1520 : decode cL_law 1520 = .ok (.i2l, 1) := by decide +kernel
theorem d355_1521 : decode cL_law 1521 = .ok (.lcmp, 1) := by decide +kernel
theorem d355_1522 : decode cL_law 1522 = .ok (.ifCond .eq 5, 3) := by decide +kernel
theorem d355_1525 : decode cL_law 1525 = .ok (.iconst 0, 1) := by decide +kernel
theorem d355_1526 : decode cL_law 1526 = .ok (.ireturn, 1) := by decide +kernel
theorem d355_1527 : decode cL_law 1527 = .ok (.goto 2039, 3) := by decide +kernel
theorem d355_1530 : decode cL_law 1530 = .ok (.aload_n 1, 1) := by decide +kernel
theorem d355_1531 : decode cL_law 1531 = .ok (.aload_n 0, 1) := by decide +kernel
theorem d355_1532 : decode cL_law 1532 = .ok (.iload 5, 2) := by decide +kernel
theorem d355_1534 : decode cL_law 1534 = .ok (.iconst 1, 1) := by decide +kernel
theorem d355_1535 : decode cL_law 1535 = .ok (.iadd, 1) := by decide +kernel
theorem d355_1536 : decode cL_law 1536 = .ok (.iaload, 1) := by decide +kernel
theorem d355_1537 : decode cL_law 1537 = .ok (.aload_n 3, 1) := by decide +kernel
theorem d355_1538 : decode cL_law 1538 = .ok (.invokestatic 250, 3) := by decide +kernel
theorem d355_1541 : decode cL_law 1541 = .ok (.istore 6, 2) := by decide +kernel
theorem d355_1543 : decode cL_law 1543 = .ok (.aload_n 2, 1) := by decide +kernel
theorem d355_1544 : decode cL_law 1544 = .ok (.aload_n 0, 1) := by decide +kernel
theorem d355_1545 : decode cL_law 1545 = .ok (.iload 5, 2) := by decide +kernel
theorem d355_1547 : decode cL_law 1547 = .ok (.iconst 1, 1) := by decide +kernel
theorem d355_1548 : decode cL_law 1548 = .ok (.iadd, 1) := by decide +kernel
theorem d355_1549 : decode cL_law 1549 = .ok (.iaload, 1) := by decide +kernel
theorem d355_1550 : decode cL_law 1550 = .ok (.invokevirtual 252, 3) := by decide +kernel
theorem d355_1553 : decode cL_law 1553 = .ok (.istore 7, 2) := by decide +kernel
theorem d355_1555 : decode cL_law 1555 = .ok (.aload_n 2, 1) := by decide +kernel
theorem d355_1556 : decode cL_law 1556 = .ok (.invokevirtual 194, 3) := by decide +kernel
theorem d355_1559 : decode cL_law 1559 = .ok (.iload 6, 2) := by decide +kernel
theorem d355_1561 : decode cL_law 1561 = .ok (.if_icmp .eq 5, 3) := by decide +kernel
theorem d355_1564 : decode cL_law 1564 = .ok (.iconst 0, 1) := by decide +kernel
theorem d355_1565 : decode cL_law 1565 = .ok (.ireturn, 1) := by decide +kernel
theorem d355_1566 : decode cL_law 1566 = .ok (.iload 6, 2) := by decide +kernel
theorem d355_1568 : decode cL_law 1568 = .ok (.ifCond .ne 15, 3) := by decide +kernel
theorem d355_1571 : decode cL_law 1571 = .ok (.aload_n 3, 1) := by decide +kernel
theorem d355_1572 : decode cL_law 1572 = .ok (.iconst 0, 1) := by decide +kernel
theorem d355_1573 : decode cL_law 1573 = .ok (.laload, 1) := by decide +kernel
theorem d355_1574 : decode cL_law 1574 = .ok (.iload 7, 2) := by decide +kernel
theorem d355_1576 : decode cL_law 1576 = .ok (.i2l, 1) := by decide +kernel
theorem d355_1577 : decode cL_law 1577 = .ok (.lcmp, 1) := by decide +kernel
theorem d355_1578 : decode cL_law 1578 = .ok (.ifCond .eq 5, 3) := by decide +kernel
theorem d355_1581 : decode cL_law 1581 = .ok (.iconst 0, 1) := by decide +kernel
theorem d355_1582 : decode cL_law 1582 = .ok (.ireturn, 1) := by decide +kernel
theorem d355_1583 : decode cL_law 1583 = .ok (.goto 1983, 3) := by decide +kernel
theorem d355_1586 : decode cL_law 1586 = .ok (.aload_n 1, 1) := by decide +kernel
theorem d355_1587 : decode cL_law 1587 = .ok (.aload_n 0, 1) := by decide +kernel
theorem d355_1588 : decode cL_law 1588 = .ok (.iload 5, 2) := by decide +kernel
theorem d355_1590 : decode cL_law 1590 = .ok (.iconst 1, 1) := by decide +kernel
theorem d355_1591 : decode cL_law 1591 = .ok (.iadd, 1) := by decide +kernel
theorem d355_1592 : decode cL_law 1592 = .ok (.iaload, 1) := by decide +kernel
theorem d355_1593 : decode cL_law 1593 = .ok (.aload_n 3, 1) := by decide +kernel
theorem d355_1594 : decode cL_law 1594 = .ok (.invokestatic 253, 3) := by decide +kernel
theorem d355_1597 : decode cL_law 1597 = .ok (.istore 6, 2) := by decide +kernel
theorem d355_1599 : decode cL_law 1599 = .ok (.aload_n 2, 1) := by decide +kernel
theorem d355_1600 : decode cL_law 1600 = .ok (.aload_n 0, 1) := by decide +kernel
theorem d355_1601 : decode cL_law 1601 = .ok (.iload 5, 2) := by decide +kernel
theorem d355_1603 : decode cL_law 1603 = .ok (.iconst 1, 1) := by decide +kernel
theorem d355_1604 : decode cL_law 1604 = .ok (.iadd, 1) := by decide +kernel
theorem d355_1605 : decode cL_law 1605 = .ok (.iaload, 1) := by decide +kernel
theorem d355_1606 : decode cL_law 1606 = .ok (.invokevirtual 255, 3) := by decide +kernel
theorem d355_1609 : decode cL_law 1609 = .ok (.istore 7, 2) := by decide +kernel
theorem d355_1611 : decode cL_law 1611 = .ok (.aload_n 2, 1) := by decide +kernel
theorem d355_1612 : decode cL_law 1612 = .ok (.invokevirtual 194, 3) := by decide +kernel
theorem d355_1615 : decode cL_law 1615 = .ok (.iload 6, 2) := by decide +kernel
theorem d355_1617 : decode cL_law 1617 = .ok (.if_icmp .eq 5, 3) := by decide +kernel
theorem d355_1620 : decode cL_law 1620 = .ok (.iconst 0, 1) := by decide +kernel
theorem d355_1621 : decode cL_law 1621 = .ok (.ireturn, 1) := by decide +kernel
theorem d355_1622 : decode cL_law 1622 = .ok (.iload 6, 2) := by decide +kernel
theorem d355_1624 : decode cL_law 1624 = .ok (.ifCond .ne 15, 3) := by decide +kernel
theorem d355_1627 : decode cL_law 1627 = .ok (.aload_n 3, 1) := by decide +kernel
theorem d355_1628 : decode cL_law 1628 = .ok (.iconst 0, 1) := by decide +kernel
theorem d355_1629 : decode cL_law 1629 = .ok (.laload, 1) := by decide +kernel
theorem d355_1630 : decode cL_law 1630 = .ok (.iload 7, 2) := by decide +kernel
theorem d355_1632 : decode cL_law 1632 = .ok (.i2l, 1) := by decide +kernel
theorem d355_1633 : decode cL_law 1633 = .ok (.lcmp, 1) := by decide +kernel
theorem d355_1634 : decode cL_law 1634 = .ok (.ifCond .eq 5, 3) := by decide +kernel
theorem d355_1637 : decode cL_law 1637 = .ok (.iconst 0, 1) := by decide +kernel
theorem d355_1638 : decode cL_law 1638 = .ok (.ireturn, 1) := by decide +kernel
theorem d355_1639 : decode cL_law 1639 = .ok (.goto 1927, 3) := by decide +kernel
theorem d355_1642 : decode cL_law 1642 = .ok (.aload_n 1, 1) := by decide +kernel
theorem d355_1643 : decode cL_law 1643 = .ok (.aload_n 0, 1) := by decide +kernel
theorem d355_1644 : decode cL_law 1644 = .ok (.iload 5, 2) := by decide +kernel
theorem d355_1646 : decode cL_law 1646 = .ok (.iconst 1, 1) := by decide +kernel
theorem d355_1647 : decode cL_law 1647 = .ok (.iadd, 1) := by decide +kernel
theorem d355_1648 : decode cL_law 1648 = .ok (.iaload, 1) := by decide +kernel
theorem d355_1649 : decode cL_law 1649 = .ok (.aload_n 3, 1) := by decide +kernel
theorem d355_1650 : decode cL_law 1650 = .ok (.invokestatic 256, 3) := by decide +kernel
theorem d355_1653 : decode cL_law 1653 = .ok (.istore 6, 2) := by decide +kernel
theorem d355_1655 : decode cL_law 1655 = .ok (.aload_n 2, 1) := by decide +kernel
theorem d355_1656 : decode cL_law 1656 = .ok (.aload_n 0, 1) := by decide +kernel
theorem d355_1657 : decode cL_law 1657 = .ok (.iload 5, 2) := by decide +kernel
theorem d355_1659 : decode cL_law 1659 = .ok (.iconst 1, 1) := by decide +kernel
theorem d355_1660 : decode cL_law 1660 = .ok (.iadd, 1) := by decide +kernel
theorem d355_1661 : decode cL_law 1661 = .ok (.iaload, 1) := by decide +kernel
theorem d355_1662 : decode cL_law 1662 = .ok (.invokevirtual 258, 3) := by decide +kernel
theorem d355_1665 : decode cL_law 1665 = .ok (.istore 7, 2) := by decide +kernel
theorem d355_1667 : decode cL_law 1667 = .ok (.aload_n 2, 1) := by decide +kernel
theorem d355_1668 : decode cL_law 1668 = .ok (.invokevirtual 194, 3) := by decide +kernel
theorem d355_1671 : decode cL_law 1671 = .ok (.iload 6, 2) := by decide +kernel
theorem d355_1673 : decode cL_law 1673 = .ok (.if_icmp .eq 5, 3) := by decide +kernel
theorem d355_1676 : decode cL_law 1676 = .ok (.iconst 0, 1) := by decide +kernel
theorem d355_1677 : decode cL_law 1677 = .ok (.ireturn, 1) := by decide +kernel
theorem d355_1678 : decode cL_law 1678 = .ok (.iload 6, 2) := by decide +kernel
theorem d355_1680 : decode cL_law 1680 = .ok (.ifCond .ne 15, 3) := by decide +kernel
theorem d355_1683 : decode cL_law 1683 = .ok (.aload_n 3, 1) := by decide +kernel
theorem d355_1684 : decode cL_law 1684 = .ok (.iconst 0, 1) := by decide +kernel
theorem d355_1685 : decode cL_law 1685 = .ok (.laload, 1) := by decide +kernel
theorem d355_1686 : decode cL_law 1686 = .ok (.iload 7, 2) := by decide +kernel
theorem d355_1688 : decode cL_law 1688 = .ok (.i2l, 1) := by decide +kernel
theorem d355_1689 : decode cL_law 1689 = .ok (.lcmp, 1) := by decide +kernel
theorem d355_1690 : decode cL_law 1690 = .ok (.ifCond .eq 5, 3) := by decide +kernel
theorem d355_1693 : decode cL_law 1693 = .ok (.iconst 0, 1) := by decide +kernel
theorem d355_1694 : decode cL_law 1694 = .ok (.ireturn, 1) := by decide +kernel
theorem d355_1695 : decode cL_law 1695 = .ok (.goto 1871, 3) := by decide +kernel
theorem d355_1698 : decode cL_law 1698 = .ok (.aload_n 1, 1) := by decide +kernel
theorem d355_1699 : decode cL_law 1699 = .ok (.aload_n 0, 1) := by decide +kernel
theorem d355_1700 : decode cL_law 1700 = .ok (.iload 5, 2) := by decide +kernel
theorem d355_1702 : decode cL_law 1702 = .ok (.iconst 1, 1) := by decide +kernel
theorem d355_1703 : decode cL_law 1703 = .ok (.iadd, 1) := by decide +kernel
theorem d355_1704 : decode cL_law 1704 = .ok (.iaload, 1) := by decide +kernel
theorem d355_1705 : decode cL_law 1705 = .ok (.aload_n 0, 1) := by decide +kernel
theorem d355_1706 : decode cL_law 1706 = .ok (.iload 5, 2) := by decide +kernel
theorem d355_1708 : decode cL_law 1708 = .ok (.iconst 2, 1) := by decide +kernel
theorem d355_1709 : decode cL_law 1709 = .ok (.iadd, 1) := by decide +kernel
theorem d355_1710 : decode cL_law 1710 = .ok (.iaload, 1) := by decide +kernel
theorem d355_1711 : decode cL_law 1711 = .ok (.aload_n 3, 1) := by decide +kernel
theorem d355_1712 : decode cL_law 1712 = .ok (.invokestatic 259, 3) := by decide +kernel
theorem d355_1715 : decode cL_law 1715 = .ok (.istore 6, 2) := by decide +kernel
theorem d355_1717 : decode cL_law 1717 = .ok (.aload_n 2, 1) := by decide +kernel
theorem d355_1718 : decode cL_law 1718 = .ok (.aload_n 0, 1) := by decide +kernel
theorem d355_1719 : decode cL_law 1719 = .ok (.iload 5, 2) := by decide +kernel
theorem d355_1721 : decode cL_law 1721 = .ok (.iconst 1, 1) := by decide +kernel
theorem d355_1722 : decode cL_law 1722 = .ok (.iadd, 1) := by decide +kernel
theorem d355_1723 : decode cL_law 1723 = .ok (.iaload, 1) := by decide +kernel
theorem d355_1724 : decode cL_law 1724 = .ok (.aload_n 0, 1) := by decide +kernel
theorem d355_1725 : decode cL_law 1725 = .ok (.iload 5, 2) := by decide +kernel
theorem d355_1727 : decode cL_law 1727 = .ok (.iconst 2, 1) := by decide +kernel
theorem d355_1728 : decode cL_law 1728 = .ok (.iadd, 1) := by decide +kernel
theorem d355_1729 : decode cL_law 1729 = .ok (.iaload, 1) := by decide +kernel
theorem d355_1730 : decode cL_law 1730 = .ok (.invokevirtual 261, 3) := by decide +kernel
theorem d355_1733 : decode cL_law 1733 = .ok (.istore 7, 2) := by decide +kernel
theorem d355_1735 : decode cL_law 1735 = .ok (.aload_n 2, 1) := by decide +kernel
theorem d355_1736 : decode cL_law 1736 = .ok (.invokevirtual 194, 3) := by decide +kernel
theorem d355_1739 : decode cL_law 1739 = .ok (.iload 6, 2) := by decide +kernel
theorem d355_1741 : decode cL_law 1741 = .ok (.if_icmp .eq 5, 3) := by decide +kernel
theorem d355_1744 : decode cL_law 1744 = .ok (.iconst 0, 1) := by decide +kernel
theorem d355_1745 : decode cL_law 1745 = .ok (.ireturn, 1) := by decide +kernel
theorem d355_1746 : decode cL_law 1746 = .ok (.iload 6, 2) := by decide +kernel
theorem d355_1748 : decode cL_law 1748 = .ok (.ifCond .ne 15, 3) := by decide +kernel
theorem d355_1751 : decode cL_law 1751 = .ok (.aload_n 3, 1) := by decide +kernel
theorem d355_1752 : decode cL_law 1752 = .ok (.iconst 0, 1) := by decide +kernel
theorem d355_1753 : decode cL_law 1753 = .ok (.laload, 1) := by decide +kernel
theorem d355_1754 : decode cL_law 1754 = .ok (.iload 7, 2) := by decide +kernel
theorem d355_1756 : decode cL_law 1756 = .ok (.i2l, 1) := by decide +kernel
theorem d355_1757 : decode cL_law 1757 = .ok (.lcmp, 1) := by decide +kernel
theorem d355_1758 : decode cL_law 1758 = .ok (.ifCond .eq 5, 3) := by decide +kernel
theorem d355_1761 : decode cL_law 1761 = .ok (.iconst 0, 1) := by decide +kernel
theorem d355_1762 : decode cL_law 1762 = .ok (.ireturn, 1) := by decide +kernel
theorem d355_1763 : decode cL_law 1763 = .ok (.goto 1803, 3) := by decide +kernel
theorem d355_1766 : decode cL_law 1766 = .ok (.aload_n 1, 1) := by decide +kernel
theorem d355_1767 : decode cL_law 1767 = .ok (.aload_n 0, 1) := by decide +kernel
theorem d355_1768 : decode cL_law 1768 = .ok (.iload 5, 2) := by decide +kernel
theorem d355_1770 : decode cL_law 1770 = .ok (.iconst 1, 1) := by decide +kernel
theorem d355_1771 : decode cL_law 1771 = .ok (.iadd, 1) := by decide +kernel
theorem d355_1772 : decode cL_law 1772 = .ok (.iaload, 1) := by decide +kernel
theorem d355_1773 : decode cL_law 1773 = .ok (.aload_n 3, 1) := by decide +kernel
theorem d355_1774 : decode cL_law 1774 = .ok (.invokestatic 262, 3) := by decide +kernel
theorem d355_1777 : decode cL_law 1777 = .ok (.istore 6, 2) := by decide +kernel
theorem d355_1779 : decode cL_law 1779 = .ok (.aload_n 2, 1) := by decide +kernel
theorem d355_1780 : decode cL_law 1780 = .ok (.aload_n 0, 1) := by decide +kernel
theorem d355_1781 : decode cL_law 1781 = .ok (.iload 5, 2) := by decide +kernel
theorem d355_1783 : decode cL_law 1783 = .ok (.iconst 1, 1) := by decide +kernel
theorem d355_1784 : decode cL_law 1784 = .ok (.iadd, 1) := by decide +kernel
theorem d355_1785 : decode cL_law 1785 = .ok (.iaload, 1) := by decide +kernel
theorem d355_1786 : decode cL_law 1786 = .ok (.invokevirtual 264, 3) := by decide +kernel
theorem d355_1789 : decode cL_law 1789 = .ok (.istore 7, 2) := by decide +kernel
theorem d355_1791 : decode cL_law 1791 = .ok (.aload_n 2, 1) := by decide +kernel
theorem d355_1792 : decode cL_law 1792 = .ok (.invokevirtual 194, 3) := by decide +kernel
theorem d355_1795 : decode cL_law 1795 = .ok (.iload 6, 2) := by decide +kernel
theorem d355_1797 : decode cL_law 1797 = .ok (.if_icmp .eq 5, 3) := by decide +kernel
theorem d355_1800 : decode cL_law 1800 = .ok (.iconst 0, 1) := by decide +kernel
theorem d355_1801 : decode cL_law 1801 = .ok (.ireturn, 1) := by decide +kernel
theorem d355_1802 : decode cL_law 1802 = .ok (.iload 6, 2) := by decide +kernel
theorem d355_1804 : decode cL_law 1804 = .ok (.ifCond .ne 15, 3) := by decide +kernel
theorem d355_1807 : decode cL_law 1807 = .ok (.aload_n 3, 1) := by decide +kernel
theorem d355_1808 : decode cL_law 1808 = .ok (.iconst 0, 1) := by decide +kernel
theorem d355_1809 : decode cL_law 1809 = .ok (.laload, 1) := by decide +kernel
theorem d355_1810 : decode cL_law 1810 = .ok (.iload 7, 2) := by decide +kernel
theorem d355_1812 : decode cL_law 1812 = .ok (.i2l, 1) := by decide +kernel
theorem d355_1813 : decode cL_law 1813 = .ok (.lcmp, 1) := by decide +kernel
theorem d355_1814 : decode cL_law 1814 = .ok (.ifCond .eq 5, 3) := by decide +kernel
theorem d355_1817 : decode cL_law 1817 = .ok (.iconst 0, 1) := by decide +kernel
theorem d355_1818 : decode cL_law 1818 = .ok (.ireturn, 1) := by decide +kernel
theorem d355_1819 : decode cL_law 1819 = .ok (.goto 1747, 3) := by decide +kernel
theorem d355_1822 : decode cL_law 1822 = .ok (.aload_n 1, 1) := by decide +kernel
theorem d355_1823 : decode cL_law 1823 = .ok (.aload_n 0, 1) := by decide +kernel
theorem d355_1824 : decode cL_law 1824 = .ok (.iload 5, 2) := by decide +kernel
theorem d355_1826 : decode cL_law 1826 = .ok (.iconst 1, 1) := by decide +kernel
theorem d355_1827 : decode cL_law 1827 = .ok (.iadd, 1) := by decide +kernel
theorem d355_1828 : decode cL_law 1828 = .ok (.iaload, 1) := by decide +kernel
theorem d355_1829 : decode cL_law 1829 = .ok (.aload_n 0, 1) := by decide +kernel
theorem d355_1830 : decode cL_law 1830 = .ok (.iload 5, 2) := by decide +kernel
theorem d355_1832 : decode cL_law 1832 = .ok (.iconst 2, 1) := by decide +kernel
theorem d355_1833 : decode cL_law 1833 = .ok (.iadd, 1) := by decide +kernel
theorem d355_1834 : decode cL_law 1834 = .ok (.iaload, 1) := by decide +kernel
theorem d355_1835 : decode cL_law 1835 = .ok (.aload_n 0, 1) := by decide +kernel
theorem d355_1836 : decode cL_law 1836 = .ok (.iload 5, 2) := by decide +kernel
theorem d355_1838 : decode cL_law 1838 = .ok (.iconst 3, 1) := by decide +kernel
theorem d355_1839 : decode cL_law 1839 = .ok (.iadd, 1) := by decide +kernel
theorem d355_1840 : decode cL_law 1840 = .ok (.iaload, 1) := by decide +kernel
theorem d355_1841 : decode cL_law 1841 = .ok (.aload_n 3, 1) := by decide +kernel
theorem d355_1842 : decode cL_law 1842 = .ok (.invokestatic 265, 3) := by decide +kernel
theorem d355_1845 : decode cL_law 1845 = .ok (.istore 6, 2) := by decide +kernel
theorem d355_1847 : decode cL_law 1847 = .ok (.aload_n 2, 1) := by decide +kernel
theorem d355_1848 : decode cL_law 1848 = .ok (.aload_n 0, 1) := by decide +kernel
theorem d355_1849 : decode cL_law 1849 = .ok (.iload 5, 2) := by decide +kernel
theorem d355_1851 : decode cL_law 1851 = .ok (.iconst 1, 1) := by decide +kernel
theorem d355_1852 : decode cL_law 1852 = .ok (.iadd, 1) := by decide +kernel
theorem d355_1853 : decode cL_law 1853 = .ok (.iaload, 1) := by decide +kernel
theorem d355_1854 : decode cL_law 1854 = .ok (.aload_n 0, 1) := by decide +kernel
theorem d355_1855 : decode cL_law 1855 = .ok (.iload 5, 2) := by decide +kernel
theorem d355_1857 : decode cL_law 1857 = .ok (.iconst 2, 1) := by decide +kernel
theorem d355_1858 : decode cL_law 1858 = .ok (.iadd, 1) := by decide +kernel
theorem d355_1859 : decode cL_law 1859 = .ok (.iaload, 1) := by decide +kernel
theorem d355_1860 : decode cL_law 1860 = .ok (.aload_n 0, 1) := by decide +kernel
theorem d355_1861 : decode cL_law 1861 = .ok (.iload 5, 2) := by decide +kernel
theorem d355_1863 : decode cL_law 1863 = .ok (.iconst 3, 1) := by decide +kernel
theorem d355_1864 : decode cL_law 1864 = .ok (.iadd, 1) := by decide +kernel
theorem d355_1865 : decode cL_law 1865 = .ok (.iaload, 1) := by decide +kernel
theorem d355_1866 : decode cL_law 1866 = .ok (.invokevirtual 267, 3) := by decide +kernel
theorem d355_1869 : decode cL_law 1869 = .ok (.istore 7, 2) := by decide +kernel
theorem d355_1871 : decode cL_law 1871 = .ok (.aload_n 2, 1) := by decide +kernel
theorem d355_1872 : decode cL_law 1872 = .ok (.invokevirtual 194, 3) := by decide +kernel
theorem d355_1875 : decode cL_law 1875 = .ok (.iload 6, 2) := by decide +kernel
theorem d355_1877 : decode cL_law 1877 = .ok (.if_icmp .eq 5, 3) := by decide +kernel
theorem d355_1880 : decode cL_law 1880 = .ok (.iconst 0, 1) := by decide +kernel
theorem d355_1881 : decode cL_law 1881 = .ok (.ireturn, 1) := by decide +kernel
theorem d355_1882 : decode cL_law 1882 = .ok (.iload 6, 2) := by decide +kernel
theorem d355_1884 : decode cL_law 1884 = .ok (.ifCond .ne 15, 3) := by decide +kernel
theorem d355_1887 : decode cL_law 1887 = .ok (.aload_n 3, 1) := by decide +kernel
theorem d355_1888 : decode cL_law 1888 = .ok (.iconst 0, 1) := by decide +kernel
theorem d355_1889 : decode cL_law 1889 = .ok (.laload, 1) := by decide +kernel
theorem d355_1890 : decode cL_law 1890 = .ok (.iload 7, 2) := by decide +kernel
theorem d355_1892 : decode cL_law 1892 = .ok (.i2l, 1) := by decide +kernel
theorem d355_1893 : decode cL_law 1893 = .ok (.lcmp, 1) := by decide +kernel
theorem d355_1894 : decode cL_law 1894 = .ok (.ifCond .eq 5, 3) := by decide +kernel
theorem d355_1897 : decode cL_law 1897 = .ok (.iconst 0, 1) := by decide +kernel
theorem d355_1898 : decode cL_law 1898 = .ok (.ireturn, 1) := by decide +kernel
theorem d355_1899 : decode cL_law 1899 = .ok (.goto 1667, 3) := by decide +kernel
theorem d355_1902 : decode cL_law 1902 = .ok (.aload_n 1, 1) := by decide +kernel
theorem d355_1903 : decode cL_law 1903 = .ok (.aload_n 0, 1) := by decide +kernel
theorem d355_1904 : decode cL_law 1904 = .ok (.iload 5, 2) := by decide +kernel
theorem d355_1906 : decode cL_law 1906 = .ok (.iconst 1, 1) := by decide +kernel
theorem d355_1907 : decode cL_law 1907 = .ok (.iadd, 1) := by decide +kernel
theorem d355_1908 : decode cL_law 1908 = .ok (.iaload, 1) := by decide +kernel
theorem d355_1909 : decode cL_law 1909 = .ok (.aload_n 3, 1) := by decide +kernel
theorem d355_1910 : decode cL_law 1910 = .ok (.invokestatic 268, 3) := by decide +kernel
theorem d355_1913 : decode cL_law 1913 = .ok (.istore 6, 2) := by decide +kernel
theorem d355_1915 : decode cL_law 1915 = .ok (.aload_n 2, 1) := by decide +kernel
theorem d355_1916 : decode cL_law 1916 = .ok (.aload_n 0, 1) := by decide +kernel
theorem d355_1917 : decode cL_law 1917 = .ok (.iload 5, 2) := by decide +kernel
theorem d355_1919 : decode cL_law 1919 = .ok (.iconst 1, 1) := by decide +kernel
theorem d355_1920 : decode cL_law 1920 = .ok (.iadd, 1) := by decide +kernel
theorem d355_1921 : decode cL_law 1921 = .ok (.iaload, 1) := by decide +kernel
theorem d355_1922 : decode cL_law 1922 = .ok (.invokevirtual 270, 3) := by decide +kernel
theorem d355_1925 : decode cL_law 1925 = .ok (.istore 7, 2) := by decide +kernel
theorem d355_1927 : decode cL_law 1927 = .ok (.aload_n 2, 1) := by decide +kernel
theorem d355_1928 : decode cL_law 1928 = .ok (.invokevirtual 194, 3) := by decide +kernel
theorem d355_1931 : decode cL_law 1931 = .ok (.iload 6, 2) := by decide +kernel
theorem d355_1933 : decode cL_law 1933 = .ok (.if_icmp .eq 5, 3) := by decide +kernel
theorem d355_1936 : decode cL_law 1936 = .ok (.iconst 0, 1) := by decide +kernel
theorem d355_1937 : decode cL_law 1937 = .ok (.ireturn, 1) := by decide +kernel
theorem d355_1938 : decode cL_law 1938 = .ok (.iload 6, 2) := by decide +kernel
theorem d355_1940 : decode cL_law 1940 = .ok (.ifCond .ne 15, 3) := by decide +kernel
theorem d355_1943 : decode cL_law 1943 = .ok (.aload_n 3, 1) := by decide +kernel
theorem d355_1944 : decode cL_law 1944 = .ok (.iconst 0, 1) := by decide +kernel
theorem d355_1945 : decode cL_law 1945 = .ok (.laload, 1) := by decide +kernel
theorem d355_1946 : decode cL_law 1946 = .ok (.iload 7, 2) := by decide +kernel
theorem d355_1948 : decode cL_law 1948 = .ok (.i2l, 1) := by decide +kernel
theorem d355_1949 : decode cL_law 1949 = .ok (.lcmp, 1) := by decide +kernel
theorem d355_1950 : decode cL_law 1950 = .ok (.ifCond .eq 5, 3) := by decide +kernel
theorem d355_1953 : decode cL_law 1953 = .ok (.iconst 0, 1) := by decide +kernel
theorem d355_1954 : decode cL_law 1954 = .ok (.ireturn, 1) := by decide +kernel
theorem d355_1955 : decode cL_law 1955 = .ok (.goto 1611, 3) := by decide +kernel
theorem d355_1958 : decode cL_law 1958 = .ok (.aload_n 1, 1) := by decide +kernel
theorem d355_1959 : decode cL_law 1959 = .ok (.aload_n 0, 1) := by decide +kernel
theorem d355_1960 : decode cL_law 1960 = .ok (.iload 5, 2) := by decide +kernel
theorem d355_1962 : decode cL_law 1962 = .ok (.iconst 1, 1) := by decide +kernel
theorem d355_1963 : decode cL_law 1963 = .ok (.iadd, 1) := by decide +kernel
theorem d355_1964 : decode cL_law 1964 = .ok (.iaload, 1) := by decide +kernel
theorem d355_1965 : decode cL_law 1965 = .ok (.aload_n 0, 1) := by decide +kernel
theorem d355_1966 : decode cL_law 1966 = .ok (.iload 5, 2) := by decide +kernel
theorem d355_1968 : decode cL_law 1968 = .ok (.iconst 2, 1) := by decide +kernel
theorem d355_1969 : decode cL_law 1969 = .ok (.iadd, 1) := by decide +kernel
theorem d355_1970 : decode cL_law 1970 = .ok (.iaload, 1) := by decide +kernel
theorem d355_1971 : decode cL_law 1971 = .ok (.aload_n 3, 1) := by decide +kernel
theorem d355_1972 : decode cL_law 1972 = .ok (.invokestatic 271, 3) := by decide +kernel
theorem d355_1975 : decode cL_law 1975 = .ok (.istore 6, 2) := by decide +kernel
theorem d355_1977 : decode cL_law 1977 = .ok (.aload_n 2, 1) := by decide +kernel
theorem d355_1978 : decode cL_law 1978 = .ok (.aload_n 0, 1) := by decide +kernel
theorem d355_1979 : decode cL_law 1979 = .ok (.iload 5, 2) := by decide +kernel
theorem d355_1981 : decode cL_law 1981 = .ok (.iconst 1, 1) := by decide +kernel
theorem d355_1982 : decode cL_law 1982 = .ok (.iadd, 1) := by decide +kernel
theorem d355_1983 : decode cL_law 1983 = .ok (.iaload, 1) := by decide +kernel
theorem d355_1984 : decode cL_law 1984 = .ok (.aload_n 0, 1) := by decide +kernel
theorem d355_1985 : decode cL_law 1985 = .ok (.iload 5, 2) := by decide +kernel
theorem d355_1987 : decode cL_law 1987 = .ok (.iconst 2, 1) := by decide +kernel
theorem d355_1988 : decode cL_law 1988 = .ok (.iadd, 1) := by decide +kernel
theorem d355_1989 : decode cL_law 1989 = .ok (.iaload, 1) := by decide +kernel
theorem d355_1990 : decode cL_law 1990 = .ok (.invokevirtual 273, 3) := by decide +kernel
theorem d355_1993 : decode cL_law 1993 = .ok (.istore 7, 2) := by decide +kernel
theorem d355_1995 : decode cL_law 1995 = .ok (.aload_n 2, 1) := by decide +kernel
theorem d355_1996 : decode cL_law 1996 = .ok (.invokevirtual 194, 3) := by decide +kernel
theorem d355_1999 : decode cL_law 1999 = .ok (.iload 6, 2) := by decide +kernel
theorem d355_2001 : decode cL_law 2001 = .ok (.if_icmp .eq 5, 3) := by decide +kernel
theorem d355_2004 : decode cL_law 2004 = .ok (.iconst 0, 1) := by decide +kernel
theorem d355_2005 : decode cL_law 2005 = .ok (.ireturn, 1) := by decide +kernel
theorem d355_2006 : decode cL_law 2006 = .ok (.iload 6, 2) := by decide +kernel
theorem d355_2008 : decode cL_law 2008 = .ok (.ifCond .ne 15, 3) := by decide +kernel
theorem d355_2011 : decode cL_law 2011 = .ok (.aload_n 3, 1) := by decide +kernel
theorem d355_2012 : decode cL_law 2012 = .ok (.iconst 0, 1) := by decide +kernel
theorem d355_2013 : decode cL_law 2013 = .ok (.laload, 1) := by decide +kernel
theorem d355_2014 : decode cL_law 2014 = .ok (.iload 7, 2) := by decide +kernel
theorem d355_2016 : decode cL_law 2016 = .ok (.i2l, 1) := by decide +kernel
theorem d355_2017 : decode cL_law 2017 = .ok (.lcmp, 1) := by decide +kernel
theorem d355_2018 : decode cL_law 2018 = .ok (.ifCond .eq 5, 3) := by decide +kernel
theorem d355_2021 : decode cL_law 2021 = .ok (.iconst 0, 1) := by decide +kernel
theorem d355_2022 : decode cL_law 2022 = .ok (.ireturn, 1) := by decide +kernel
theorem d355_2023 : decode cL_law 2023 = .ok (.goto 1543, 3) := by decide +kernel
theorem d355_2026 : decode cL_law 2026 = .ok (.aload_n 1, 1) := by decide +kernel
theorem d355_2027 : decode cL_law 2027 = .ok (.aload_n 0, 1) := by decide +kernel
theorem d355_2028 : decode cL_law 2028 = .ok (.iload 5, 2) := by decide +kernel
theorem d355_2030 : decode cL_law 2030 = .ok (.iconst 1, 1) := by decide +kernel
theorem d355_2031 : decode cL_law 2031 = .ok (.iadd, 1) := by decide +kernel
theorem d355_2032 : decode cL_law 2032 = .ok (.iaload, 1) := by decide +kernel
theorem d355_2033 : decode cL_law 2033 = .ok (.aload_n 3, 1) := by decide +kernel
theorem d355_2034 : decode cL_law 2034 = .ok (.invokestatic 274, 3) := by decide +kernel
theorem d355_2037 : decode cL_law 2037 = .ok (.istore 6, 2) := by decide +kernel
theorem d355_2039 : decode cL_law 2039 = .ok (.aload_n 2, 1) := by decide +kernel
theorem d355_2040 : decode cL_law 2040 = .ok (.aload_n 0, 1) := by decide +kernel
theorem d355_2041 : decode cL_law 2041 = .ok (.iload 5, 2) := by decide +kernel
theorem d355_2043 : decode cL_law 2043 = .ok (.iconst 1, 1) := by decide +kernel
theorem d355_2044 : decode cL_law 2044 = .ok (.iadd, 1) := by decide +kernel
theorem d355_2045 : decode cL_law 2045 = .ok (.iaload, 1) := by decide +kernel
theorem d355_2046 : decode cL_law 2046 = .ok (.invokevirtual 276, 3) := by decide +kernel
theorem d355_2049 : decode cL_law 2049 = .ok (.istore 7, 2) := by decide +kernel
theorem d355_2051 : decode cL_law 2051 = .ok (.aload_n 2, 1) := by decide +kernel
theorem d355_2052 : decode cL_law 2052 = .ok (.invokevirtual 194, 3) := by decide +kernel
theorem d355_2055 : decode cL_law 2055 = .ok (.iload 6, 2) := by decide +kernel
theorem d355_2057 : decode cL_law 2057 = .ok (.if_icmp .eq 5, 3) := by decide +kernel
theorem d355_2060 : decode cL_law 2060 = .ok (.iconst 0, 1) := by decide +kernel
theorem d355_2061 : decode cL_law 2061 = .ok (.ireturn, 1) := by decide +kernel
theorem d355_2062 : decode cL_law 2062 = .ok (.iload 6, 2) := by decide +kernel
theorem d355_2064 : decode cL_law 2064 = .ok (.ifCond .ne 15, 3) := by decide +kernel
theorem d355_2067 : decode cL_law 2067 = .ok (.aload_n 3, 1) := by decide +kernel
theorem d355_2068 : decode cL_law 2068 = .ok (.iconst 0, 1) := by decide +kernel
theorem d355_2069 : decode cL_law 2069 = .ok (.laload, 1) := by decide +kernel
theorem d355_2070 : decode cL_law 2070 = .ok (.iload 7, 2) := by decide +kernel
theorem d355_2072 : decode cL_law 2072 = .ok (.i2l, 1) := by decide +kernel
theorem d355_2073 : decode cL_law 2073 = .ok (.lcmp, 1) := by decide +kernel
theorem d355_2074 : decode cL_law 2074 = .ok (.ifCond .eq 5, 3) := by decide +kernel
theorem d355_2077 : decode cL_law 2077 = .ok (.iconst 0, 1) := by decide +kernel
theorem d355_2078 : decode cL_law 2078 = .ok (.ireturn, 1) := by decide +kernel
theorem d355_2079 : decode cL_law 2079 = .ok (.goto 1487, 3) := by decide +kernel
theorem d355_2082 : decode cL_law 2082 = .ok (.aload_n 1, 1) := by decide +kernel
theorem d355_2083 : decode cL_law 2083 = .ok (.aload_n 0, 1) := by decide +kernel
theorem d355_2084 : decode cL_law 2084 = .ok (.iload 5, 2) := by decide +kernel
theorem d355_2086 : decode cL_law 2086 = .ok (.iconst 1, 1) := by decide +kernel
theorem d355_2087 : decode cL_law 2087 = .ok (.iadd, 1) := by decide +kernel
theorem d355_2088 : decode cL_law 2088 = .ok (.iaload, 1) := by decide +kernel
theorem d355_2089 : decode cL_law 2089 = .ok (.aload_n 3, 1) := by decide +kernel
theorem d355_2090 : decode cL_law 2090 = .ok (.invokestatic 277, 3) := by decide +kernel
theorem d355_2093 : decode cL_law 2093 = .ok (.istore 6, 2) := by decide +kernel
theorem d355_2095 : decode cL_law 2095 = .ok (.aload_n 2, 1) := by decide +kernel
theorem d355_2096 : decode cL_law 2096 = .ok (.aload_n 0, 1) := by decide +kernel
theorem d355_2097 : decode cL_law 2097 = .ok (.iload 5, 2) := by decide +kernel
theorem d355_2099 : decode cL_law 2099 = .ok (.iconst 1, 1) := by decide +kernel
theorem d355_2100 : decode cL_law 2100 = .ok (.iadd, 1) := by decide +kernel
theorem d355_2101 : decode cL_law 2101 = .ok (.iaload, 1) := by decide +kernel
theorem d355_2102 : decode cL_law 2102 = .ok (.invokevirtual 279, 3) := by decide +kernel
theorem d355_2105 : decode cL_law 2105 = .ok (.istore 7, 2) := by decide +kernel
theorem d355_2107 : decode cL_law 2107 = .ok (.aload_n 2, 1) := by decide +kernel
theorem d355_2108 : decode cL_law 2108 = .ok (.invokevirtual 194, 3) := by decide +kernel
theorem d355_2111 : decode cL_law 2111 = .ok (.iload 6, 2) := by decide +kernel
theorem d355_2113 : decode cL_law 2113 = .ok (.if_icmp .eq 5, 3) := by decide +kernel
theorem d355_2116 : decode cL_law 2116 = .ok (.iconst 0, 1) := by decide +kernel
theorem d355_2117 : decode cL_law 2117 = .ok (.ireturn, 1) := by decide +kernel
theorem d355_2118 : decode cL_law 2118 = .ok (.iload 6, 2) := by decide +kernel
theorem d355_2120 : decode cL_law 2120 = .ok (.ifCond .ne 15, 3) := by decide +kernel
theorem d355_2123 : decode cL_law 2123 = .ok (.aload_n 3, 1) := by decide +kernel
theorem d355_2124 : decode cL_law 2124 = .ok (.iconst 0, 1) := by decide +kernel
theorem d355_2125 : decode cL_law 2125 = .ok (.laload, 1) := by decide +kernel
theorem d355_2126 : decode cL_law 2126 = .ok (.iload 7, 2) := by decide +kernel
theorem d355_2128 : decode cL_law 2128 = .ok (.i2l, 1) := by decide +kernel
theorem d355_2129 : decode cL_law 2129 = .ok (.lcmp, 1) := by decide +kernel
theorem d355_2130 : decode cL_law 2130 = .ok (.ifCond .eq 5, 3) := by decide +kernel
theorem d355_2133 : decode cL_law 2133 = .ok (.iconst 0, 1) := by decide +kernel
theorem d355_2134 : decode cL_law 2134 = .ok (.ireturn, 1) := by decide +kernel
theorem d355_2135 : decode cL_law 2135 = .ok (.goto 1431, 3) := by decide +kernel
theorem d355_2138 : decode cL_law 2138 = .ok (.aload_n 1, 1) := by decide +kernel
theorem d355_2139 : decode cL_law 2139 = .ok (.invokevirtual 280, 3) := by decide +kernel
theorem d355_2142 : decode cL_law 2142 = .ok (.aload_n 2, 1) := by decide +kernel
theorem d355_2143 : decode cL_law 2143 = .ok (.invokevirtual 283, 3) := by decide +kernel
theorem d355_2146 : decode cL_law 2146 = .ok (.if_icmp .eq 1420, 3) := by decide +kernel
theorem d355_2149 : decode cL_law 2149 = .ok (.iconst 0, 1) := by decide +kernel
theorem d355_2150 : decode cL_law 2150 = .ok (.ireturn, 1) := by decide +kernel
theorem d355_2151 : decode cL_law 2151 = .ok (.aload_n 1, 1) := by decide +kernel
theorem d355_2152 : decode cL_law 2152 = .ok (.invokevirtual 284, 3) := by decide +kernel
theorem d355_2155 : decode cL_law 2155 = .ok (.aload_n 2, 1) := by decide +kernel
theorem d355_2156 : decode cL_law 2156 = .ok (.invokevirtual 287, 3) := by decide +kernel
theorem d355_2159 : decode cL_law 2159 = .ok (.if_icmp .eq 1407, 3) := by decide +kernel
theorem d355_2162 : decode cL_law 2162 = .ok (.iconst 0, 1) := by decide +kernel
theorem d355_2163 : decode cL_law 2163 = .ok (.ireturn, 1) := by decide +kernel
theorem d355_2164 : decode cL_law 2164 = .ok (.aload_n 1, 1) := by decide +kernel
theorem d355_2165 : decode cL_law 2165 = .ok (.invokevirtual 288, 3) := by decide +kernel
theorem d355_2168 : decode cL_law 2168 = .ok (.aload_n 2, 1) := by decide +kernel
theorem d355_2169 : decode cL_law 2169 = .ok (.invokevirtual 291, 3) := by decide +kernel
theorem d355_2172 : decode cL_law 2172 = .ok (.if_icmp .eq 1394, 3) := by decide +kernel
theorem d355_2175 : decode cL_law 2175 = .ok (.iconst 0, 1) := by decide +kernel
theorem d355_2176 : decode cL_law 2176 = .ok (.ireturn, 1) := by decide +kernel
theorem d355_2177 : decode cL_law 2177 = .ok (.aload_n 1, 1) := by decide +kernel
theorem d355_2178 : decode cL_law 2178 = .ok (.aload_n 0, 1) := by decide +kernel
theorem d355_2179 : decode cL_law 2179 = .ok (.iload 5, 2) := by decide +kernel
theorem d355_2181 : decode cL_law 2181 = .ok (.iconst 1, 1) := by decide +kernel
theorem d355_2182 : decode cL_law 2182 = .ok (.iadd, 1) := by decide +kernel
theorem d355_2183 : decode cL_law 2183 = .ok (.iaload, 1) := by decide +kernel
theorem d355_2184 : decode cL_law 2184 = .ok (.aload_n 0, 1) := by decide +kernel
theorem d355_2185 : decode cL_law 2185 = .ok (.iload 5, 2) := by decide +kernel
theorem d355_2187 : decode cL_law 2187 = .ok (.iconst 2, 1) := by decide +kernel
theorem d355_2188 : decode cL_law 2188 = .ok (.iadd, 1) := by decide +kernel
theorem d355_2189 : decode cL_law 2189 = .ok (.iaload, 1) := by decide +kernel
theorem d355_2190 : decode cL_law 2190 = .ok (.aload_n 0, 1) := by decide +kernel
theorem d355_2191 : decode cL_law 2191 = .ok (.iload 5, 2) := by decide +kernel
theorem d355_2193 : decode cL_law 2193 = .ok (.iconst 3, 1) := by decide +kernel
theorem d355_2194 : decode cL_law 2194 = .ok (.iadd, 1) := by decide +kernel
theorem d355_2195 : decode cL_law 2195 = .ok (.iaload, 1) := by decide +kernel
theorem d355_2196 : decode cL_law 2196 = .ok (.aload_n 3, 1) := by decide +kernel
theorem d355_2197 : decode cL_law 2197 = .ok (.invokestatic 292, 3) := by decide +kernel
theorem d355_2200 : decode cL_law 2200 = .ok (.istore 6, 2) := by decide +kernel
theorem d355_2202 : decode cL_law 2202 = .ok (.aload_n 2, 1) := by decide +kernel
theorem d355_2203 : decode cL_law 2203 = .ok (.aload_n 0, 1) := by decide +kernel
theorem d355_2204 : decode cL_law 2204 = .ok (.iload 5, 2) := by decide +kernel
theorem d355_2206 : decode cL_law 2206 = .ok (.iconst 1, 1) := by decide +kernel
theorem d355_2207 : decode cL_law 2207 = .ok (.iadd, 1) := by decide +kernel
theorem d355_2208 : decode cL_law 2208 = .ok (.iaload, 1) := by decide +kernel
theorem d355_2209 : decode cL_law 2209 = .ok (.aload_n 0, 1) := by decide +kernel
theorem d355_2210 : decode cL_law 2210 = .ok (.iload 5, 2) := by decide +kernel
theorem d355_2212 : decode cL_law 2212 = .ok (.iconst 2, 1) := by decide +kernel
theorem d355_2213 : decode cL_law 2213 = .ok (.iadd, 1) := by decide +kernel
theorem d355_2214 : decode cL_law 2214 = .ok (.iaload, 1) := by decide +kernel
theorem d355_2215 : decode cL_law 2215 = .ok (.aload_n 0, 1) := by decide +kernel
theorem d355_2216 : decode cL_law 2216 = .ok (.iload 5, 2) := by decide +kernel
theorem d355_2218 : decode cL_law 2218 = .ok (.iconst 3, 1) := by decide +kernel
theorem d355_2219 : decode cL_law 2219 = .ok (.iadd, 1) := by decide +kernel
theorem d355_2220 : decode cL_law 2220 = .ok (.iaload, 1) := by decide +kernel
theorem d355_2221 : decode cL_law 2221 = .ok (.invokevirtual 294, 3) := by decide +kernel
theorem d355_2224 : decode cL_law 2224 = .ok (.istore 7, 2) := by decide +kernel
theorem d355_2226 : decode cL_law 2226 = .ok (.aload_n 2, 1) := by decide +kernel
theorem d355_2227 : decode cL_law 2227 = .ok (.invokevirtual 194, 3) := by decide +kernel
theorem d355_2230 : decode cL_law 2230 = .ok (.iload 6, 2) := by decide +kernel
theorem d355_2232 : decode cL_law 2232 = .ok (.if_icmp .eq 5, 3) := by decide +kernel
theorem d355_2235 : decode cL_law 2235 = .ok (.iconst 0, 1) := by decide +kernel
theorem d355_2236 : decode cL_law 2236 = .ok (.ireturn, 1) := by decide +kernel
theorem d355_2237 : decode cL_law 2237 = .ok (.iload 6, 2) := by decide +kernel
theorem d355_2239 : decode cL_law 2239 = .ok (.ifCond .ne 15, 3) := by decide +kernel
theorem d355_2242 : decode cL_law 2242 = .ok (.aload_n 3, 1) := by decide +kernel
theorem d355_2243 : decode cL_law 2243 = .ok (.iconst 0, 1) := by decide +kernel
theorem d355_2244 : decode cL_law 2244 = .ok (.laload, 1) := by decide +kernel
theorem d355_2245 : decode cL_law 2245 = .ok (.iload 7, 2) := by decide +kernel
theorem d355_2247 : decode cL_law 2247 = .ok (.i2l, 1) := by decide +kernel
theorem d355_2248 : decode cL_law 2248 = .ok (.lcmp, 1) := by decide +kernel
theorem d355_2249 : decode cL_law 2249 = .ok (.ifCond .eq 5, 3) := by decide +kernel
theorem d355_2252 : decode cL_law 2252 = .ok (.iconst 0, 1) := by decide +kernel
theorem d355_2253 : decode cL_law 2253 = .ok (.ireturn, 1) := by decide +kernel
theorem d355_2254 : decode cL_law 2254 = .ok (.goto 1312, 3) := by decide +kernel
theorem d355_2257 : decode cL_law 2257 = .ok (.aload_n 1, 1) := by decide +kernel
theorem d355_2258 : decode cL_law 2258 = .ok (.aload_n 0, 1) := by decide +kernel
theorem d355_2259 : decode cL_law 2259 = .ok (.iload 5, 2) := by decide +kernel
theorem d355_2261 : decode cL_law 2261 = .ok (.iconst 1, 1) := by decide +kernel
theorem d355_2262 : decode cL_law 2262 = .ok (.iadd, 1) := by decide +kernel
theorem d355_2263 : decode cL_law 2263 = .ok (.iaload, 1) := by decide +kernel
theorem d355_2264 : decode cL_law 2264 = .ok (.aload_n 3, 1) := by decide +kernel
theorem d355_2265 : decode cL_law 2265 = .ok (.invokestatic 295, 3) := by decide +kernel
theorem d355_2268 : decode cL_law 2268 = .ok (.istore 6, 2) := by decide +kernel
theorem d355_2270 : decode cL_law 2270 = .ok (.aload_n 2, 1) := by decide +kernel
theorem d355_2271 : decode cL_law 2271 = .ok (.aload_n 0, 1) := by decide +kernel
theorem d355_2272 : decode cL_law 2272 = .ok (.iload 5, 2) := by decide +kernel
theorem d355_2274 : decode cL_law 2274 = .ok (.iconst 1, 1) := by decide +kernel
theorem d355_2275 : decode cL_law 2275 = .ok (.iadd, 1) := by decide +kernel
theorem d355_2276 : decode cL_law 2276 = .ok (.iaload, 1) := by decide +kernel
theorem d355_2277 : decode cL_law 2277 = .ok (.invokevirtual 297, 3) := by decide +kernel
theorem d355_2280 : decode cL_law 2280 = .ok (.istore 7, 2) := by decide +kernel
theorem d355_2282 : decode cL_law 2282 = .ok (.aload_n 2, 1) := by decide +kernel
theorem d355_2283 : decode cL_law 2283 = .ok (.invokevirtual 194, 3) := by decide +kernel
theorem d355_2286 : decode cL_law 2286 = .ok (.iload 6, 2) := by decide +kernel
theorem d355_2288 : decode cL_law 2288 = .ok (.if_icmp .eq 5, 3) := by decide +kernel
theorem d355_2291 : decode cL_law 2291 = .ok (.iconst 0, 1) := by decide +kernel
theorem d355_2292 : decode cL_law 2292 = .ok (.ireturn, 1) := by decide +kernel
theorem d355_2293 : decode cL_law 2293 = .ok (.iload 6, 2) := by decide +kernel
theorem d355_2295 : decode cL_law 2295 = .ok (.ifCond .ne 15, 3) := by decide +kernel
theorem d355_2298 : decode cL_law 2298 = .ok (.aload_n 3, 1) := by decide +kernel
theorem d355_2299 : decode cL_law 2299 = .ok (.iconst 0, 1) := by decide +kernel
theorem d355_2300 : decode cL_law 2300 = .ok (.laload, 1) := by decide +kernel
theorem d355_2301 : decode cL_law 2301 = .ok (.iload 7, 2) := by decide +kernel
theorem d355_2303 : decode cL_law 2303 = .ok (.i2l, 1) := by decide +kernel
theorem d355_2304 : decode cL_law 2304 = .ok (.lcmp, 1) := by decide +kernel
theorem d355_2305 : decode cL_law 2305 = .ok (.ifCond .eq 5, 3) := by decide +kernel
theorem d355_2308 : decode cL_law 2308 = .ok (.iconst 0, 1) := by decide +kernel
theorem d355_2309 : decode cL_law 2309 = .ok (.ireturn, 1) := by decide +kernel
theorem d355_2310 : decode cL_law 2310 = .ok (.goto 1256, 3) := by decide +kernel
theorem d355_2313 : decode cL_law 2313 = .ok (.aload_n 1, 1) := by decide +kernel
theorem d355_2314 : decode cL_law 2314 = .ok (.aload_n 0, 1) := by decide +kernel
theorem d355_2315 : decode cL_law 2315 = .ok (.iload 5, 2) := by decide +kernel
theorem d355_2317 : decode cL_law 2317 = .ok (.iconst 1, 1) := by decide +kernel
theorem d355_2318 : decode cL_law 2318 = .ok (.iadd, 1) := by decide +kernel
theorem d355_2319 : decode cL_law 2319 = .ok (.iaload, 1) := by decide +kernel
theorem d355_2320 : decode cL_law 2320 = .ok (.aload_n 0, 1) := by decide +kernel
theorem d355_2321 : decode cL_law 2321 = .ok (.iload 5, 2) := by decide +kernel
theorem d355_2323 : decode cL_law 2323 = .ok (.iconst 2, 1) := by decide +kernel
theorem d355_2324 : decode cL_law 2324 = .ok (.iadd, 1) := by decide +kernel
theorem d355_2325 : decode cL_law 2325 = .ok (.iaload, 1) := by decide +kernel
theorem d355_2326 : decode cL_law 2326 = .ok (.aload_n 3, 1) := by decide +kernel
theorem d355_2327 : decode cL_law 2327 = .ok (.invokestatic 298, 3) := by decide +kernel
theorem d355_2330 : decode cL_law 2330 = .ok (.istore 6, 2) := by decide +kernel
theorem d355_2332 : decode cL_law 2332 = .ok (.aload_n 2, 1) := by decide +kernel
theorem d355_2333 : decode cL_law 2333 = .ok (.aload_n 0, 1) := by decide +kernel
theorem d355_2334 : decode cL_law 2334 = .ok (.iload 5, 2) := by decide +kernel
theorem d355_2336 : decode cL_law 2336 = .ok (.iconst 1, 1) := by decide +kernel
theorem d355_2337 : decode cL_law 2337 = .ok (.iadd, 1) := by decide +kernel
theorem d355_2338 : decode cL_law 2338 = .ok (.iaload, 1) := by decide +kernel
theorem d355_2339 : decode cL_law 2339 = .ok (.aload_n 0, 1) := by decide +kernel
theorem d355_2340 : decode cL_law 2340 = .ok (.iload 5, 2) := by decide +kernel
theorem d355_2342 : decode cL_law 2342 = .ok (.iconst 2, 1) := by decide +kernel
theorem d355_2343 : decode cL_law 2343 = .ok (.iadd, 1) := by decide +kernel
theorem d355_2344 : decode cL_law 2344 = .ok (.iaload, 1) := by decide +kernel
theorem d355_2345 : decode cL_law 2345 = .ok (.invokevirtual 300, 3) := by decide +kernel
theorem d355_2348 : decode cL_law 2348 = .ok (.istore 7, 2) := by decide +kernel
theorem d355_2350 : decode cL_law 2350 = .ok (.aload_n 2, 1) := by decide +kernel
theorem d355_2351 : decode cL_law 2351 = .ok (.invokevirtual 194, 3) := by decide +kernel
theorem d355_2354 : decode cL_law 2354 = .ok (.iload 6, 2) := by decide +kernel
theorem d355_2356 : decode cL_law 2356 = .ok (.if_icmp .eq 5, 3) := by decide +kernel
theorem d355_2359 : decode cL_law 2359 = .ok (.iconst 0, 1) := by decide +kernel
theorem d355_2360 : decode cL_law 2360 = .ok (.ireturn, 1) := by decide +kernel
theorem d355_2361 : decode cL_law 2361 = .ok (.iload 6, 2) := by decide +kernel
theorem d355_2363 : decode cL_law 2363 = .ok (.ifCond .ne 15, 3) := by decide +kernel
theorem d355_2366 : decode cL_law 2366 = .ok (.aload_n 3, 1) := by decide +kernel
theorem d355_2367 : decode cL_law 2367 = .ok (.iconst 0, 1) := by decide +kernel
theorem d355_2368 : decode cL_law 2368 = .ok (.laload, 1) := by decide +kernel
theorem d355_2369 : decode cL_law 2369 = .ok (.iload 7, 2) := by decide +kernel
theorem d355_2371 : decode cL_law 2371 = .ok (.i2l, 1) := by decide +kernel
theorem d355_2372 : decode cL_law 2372 = .ok (.lcmp, 1) := by decide +kernel
theorem d355_2373 : decode cL_law 2373 = .ok (.ifCond .eq 5, 3) := by decide +kernel
theorem d355_2376 : decode cL_law 2376 = .ok (.iconst 0, 1) := by decide +kernel
theorem d355_2377 : decode cL_law 2377 = .ok (.ireturn, 1) := by decide +kernel
theorem d355_2378 : decode cL_law 2378 = .ok (.goto 1188, 3) := by decide +kernel
theorem d355_2381 : decode cL_law 2381 = .ok (.aload_n 1, 1) := by decide +kernel
theorem d355_2382 : decode cL_law 2382 = .ok (.aload_n 0, 1) := by decide +kernel
theorem d355_2383 : decode cL_law 2383 = .ok (.iload 5, 2) := by decide +kernel
theorem d355_2385 : decode cL_law 2385 = .ok (.iconst 1, 1) := by decide +kernel
theorem d355_2386 : decode cL_law 2386 = .ok (.iadd, 1) := by decide +kernel
theorem d355_2387 : decode cL_law 2387 = .ok (.iaload, 1) := by decide +kernel
theorem d355_2388 : decode cL_law 2388 = .ok (.aload_n 0, 1) := by decide +kernel
theorem d355_2389 : decode cL_law 2389 = .ok (.iload 5, 2) := by decide +kernel
theorem d355_2391 : decode cL_law 2391 = .ok (.iconst 2, 1) := by decide +kernel
theorem d355_2392 : decode cL_law 2392 = .ok (.iadd, 1) := by decide +kernel
theorem d355_2393 : decode cL_law 2393 = .ok (.iaload, 1) := by decide +kernel
theorem d355_2394 : decode cL_law 2394 = .ok (.aload_n 3, 1) := by decide +kernel
theorem d355_2395 : decode cL_law 2395 = .ok (.invokestatic 301, 3) := by decide +kernel
theorem d355_2398 : decode cL_law 2398 = .ok (.istore 6, 2) := by decide +kernel
theorem d355_2400 : decode cL_law 2400 = .ok (.aload_n 2, 1) := by decide +kernel
theorem d355_2401 : decode cL_law 2401 = .ok (.aload_n 0, 1) := by decide +kernel
theorem d355_2402 : decode cL_law 2402 = .ok (.iload 5, 2) := by decide +kernel
theorem d355_2404 : decode cL_law 2404 = .ok (.iconst 1, 1) := by decide +kernel
theorem d355_2405 : decode cL_law 2405 = .ok (.iadd, 1) := by decide +kernel
theorem d355_2406 : decode cL_law 2406 = .ok (.iaload, 1) := by decide +kernel
theorem d355_2407 : decode cL_law 2407 = .ok (.aload_n 0, 1) := by decide +kernel
theorem d355_2408 : decode cL_law 2408 = .ok (.iload 5, 2) := by decide +kernel
theorem d355_2410 : decode cL_law 2410 = .ok (.iconst 2, 1) := by decide +kernel
theorem d355_2411 : decode cL_law 2411 = .ok (.iadd, 1) := by decide +kernel
theorem d355_2412 : decode cL_law 2412 = .ok (.iaload, 1) := by decide +kernel
theorem d355_2413 : decode cL_law 2413 = .ok (.invokevirtual 303, 3) := by decide +kernel
theorem d355_2416 : decode cL_law 2416 = .ok (.istore 7, 2) := by decide +kernel
theorem d355_2418 : decode cL_law 2418 = .ok (.aload_n 2, 1) := by decide +kernel
theorem d355_2419 : decode cL_law 2419 = .ok (.invokevirtual 194, 3) := by decide +kernel
theorem d355_2422 : decode cL_law 2422 = .ok (.iload 6, 2) := by decide +kernel
theorem d355_2424 : decode cL_law 2424 = .ok (.if_icmp .eq 5, 3) := by decide +kernel
theorem d355_2427 : decode cL_law 2427 = .ok (.iconst 0, 1) := by decide +kernel
theorem d355_2428 : decode cL_law 2428 = .ok (.ireturn, 1) := by decide +kernel
theorem d355_2429 : decode cL_law 2429 = .ok (.iload 6, 2) := by decide +kernel
theorem d355_2431 : decode cL_law 2431 = .ok (.ifCond .ne 15, 3) := by decide +kernel
theorem d355_2434 : decode cL_law 2434 = .ok (.aload_n 3, 1) := by decide +kernel
theorem d355_2435 : decode cL_law 2435 = .ok (.iconst 0, 1) := by decide +kernel
theorem d355_2436 : decode cL_law 2436 = .ok (.laload, 1) := by decide +kernel
theorem d355_2437 : decode cL_law 2437 = .ok (.iload 7, 2) := by decide +kernel
theorem d355_2439 : decode cL_law 2439 = .ok (.i2l, 1) := by decide +kernel
theorem d355_2440 : decode cL_law 2440 = .ok (.lcmp, 1) := by decide +kernel
theorem d355_2441 : decode cL_law 2441 = .ok (.ifCond .eq 5, 3) := by decide +kernel
theorem d355_2444 : decode cL_law 2444 = .ok (.iconst 0, 1) := by decide +kernel
theorem d355_2445 : decode cL_law 2445 = .ok (.ireturn, 1) := by decide +kernel
theorem d355_2446 : decode cL_law 2446 = .ok (.goto 1120, 3) := by decide +kernel
theorem d355_2449 : decode cL_law 2449 = .ok (.aload_n 1, 1) := by decide +kernel
theorem d355_2450 : decode cL_law 2450 = .ok (.aload_n 0, 1) := by decide +kernel
theorem d355_2451 : decode cL_law 2451 = .ok (.iload 5, 2) := by decide +kernel
theorem d355_2453 : decode cL_law 2453 = .ok (.iconst 1, 1) := by decide +kernel
theorem d355_2454 : decode cL_law 2454 = .ok (.iadd, 1) := by decide +kernel
theorem d355_2455 : decode cL_law 2455 = .ok (.iaload, 1) := by decide +kernel
theorem d355_2456 : decode cL_law 2456 = .ok (.aload_n 0, 1) := by decide +kernel
theorem d355_2457 : decode cL_law 2457 = .ok (.iload 5, 2) := by decide +kernel
theorem d355_2459 : decode cL_law 2459 = .ok (.iconst 2, 1) := by decide +kernel
theorem d355_2460 : decode cL_law 2460 = .ok (.iadd, 1) := by decide +kernel
theorem d355_2461 : decode cL_law 2461 = .ok (.iaload, 1) := by decide +kernel
theorem d355_2462 : decode cL_law 2462 = .ok (.aload_n 3, 1) := by decide +kernel
theorem d355_2463 : decode cL_law 2463 = .ok (.invokestatic 304, 3) := by decide +kernel
theorem d355_2466 : decode cL_law 2466 = .ok (.istore 6, 2) := by decide +kernel
theorem d355_2468 : decode cL_law 2468 = .ok (.aload_n 2, 1) := by decide +kernel
theorem d355_2469 : decode cL_law 2469 = .ok (.aload_n 0, 1) := by decide +kernel
theorem d355_2470 : decode cL_law 2470 = .ok (.iload 5, 2) := by decide +kernel
theorem d355_2472 : decode cL_law 2472 = .ok (.iconst 1, 1) := by decide +kernel
theorem d355_2473 : decode cL_law 2473 = .ok (.iadd, 1) := by decide +kernel
theorem d355_2474 : decode cL_law 2474 = .ok (.iaload, 1) := by decide +kernel
theorem d355_2475 : decode cL_law 2475 = .ok (.aload_n 0, 1) := by decide +kernel
theorem d355_2476 : decode cL_law 2476 = .ok (.iload 5, 2) := by decide +kernel
theorem d355_2478 : decode cL_law 2478 = .ok (.iconst 2, 1) := by decide +kernel
theorem d355_2479 : decode cL_law 2479 = .ok (.iadd, 1) := by decide +kernel
theorem d355_2480 : decode cL_law 2480 = .ok (.iaload, 1) := by decide +kernel
theorem d355_2481 : decode cL_law 2481 = .ok (.invokevirtual 306, 3) := by decide +kernel
theorem d355_2484 : decode cL_law 2484 = .ok (.istore 7, 2) := by decide +kernel
theorem d355_2486 : decode cL_law 2486 = .ok (.aload_n 2, 1) := by decide +kernel
theorem d355_2487 : decode cL_law 2487 = .ok (.invokevirtual 194, 3) := by decide +kernel
theorem d355_2490 : decode cL_law 2490 = .ok (.iload 6, 2) := by decide +kernel
theorem d355_2492 : decode cL_law 2492 = .ok (.if_icmp .eq 5, 3) := by decide +kernel
theorem d355_2495 : decode cL_law 2495 = .ok (.iconst 0, 1) := by decide +kernel
theorem d355_2496 : decode cL_law 2496 = .ok (.ireturn, 1) := by decide +kernel
theorem d355_2497 : decode cL_law 2497 = .ok (.iload 6, 2) := by decide +kernel
theorem d355_2499 : decode cL_law 2499 = .ok (.ifCond .ne 15, 3) := by decide +kernel
theorem d355_2502 : decode cL_law 2502 = .ok (.aload_n 3, 1) := by decide +kernel
theorem d355_2503 : decode cL_law 2503 = .ok (.iconst 0, 1) := by decide +kernel
theorem d355_2504 : decode cL_law 2504 = .ok (.laload, 1) := by decide +kernel
theorem d355_2505 : decode cL_law 2505 = .ok (.iload 7, 2) := by decide +kernel
theorem d355_2507 : decode cL_law 2507 = .ok (.i2l, 1) := by decide +kernel
theorem d355_2508 : decode cL_law 2508 = .ok (.lcmp, 1) := by decide +kernel
theorem d355_2509 : decode cL_law 2509 = .ok (.ifCond .eq 5, 3) := by decide +kernel
theorem d355_2512 : decode cL_law 2512 = .ok (.iconst 0, 1) := by decide +kernel
theorem d355_2513 : decode cL_law 2513 = .ok (.ireturn, 1) := by decide +kernel
theorem d355_2514 : decode cL_law 2514 = .ok (.goto 1052, 3) := by decide +kernel
theorem d355_2517 : decode cL_law 2517 = .ok (.aload_n 1, 1) := by decide +kernel
theorem d355_2518 : decode cL_law 2518 = .ok (.aload_n 0, 1) := by decide +kernel
theorem d355_2519 : decode cL_law 2519 = .ok (.iload 5, 2) := by decide +kernel
theorem d355_2521 : decode cL_law 2521 = .ok (.iconst 1, 1) := by decide +kernel
theorem d355_2522 : decode cL_law 2522 = .ok (.iadd, 1) := by decide +kernel
theorem d355_2523 : decode cL_law 2523 = .ok (.iaload, 1) := by decide +kernel
theorem d355_2524 : decode cL_law 2524 = .ok (.aload_n 0, 1) := by decide +kernel
theorem d355_2525 : decode cL_law 2525 = .ok (.iload 5, 2) := by decide +kernel
theorem d355_2527 : decode cL_law 2527 = .ok (.iconst 2, 1) := by decide +kernel
theorem d355_2528 : decode cL_law 2528 = .ok (.iadd, 1) := by decide +kernel
theorem d355_2529 : decode cL_law 2529 = .ok (.iaload, 1) := by decide +kernel
theorem d355_2530 : decode cL_law 2530 = .ok (.aload_n 0, 1) := by decide +kernel
theorem d355_2531 : decode cL_law 2531 = .ok (.iload 5, 2) := by decide +kernel
theorem d355_2533 : decode cL_law 2533 = .ok (.iconst 3, 1) := by decide +kernel
theorem d355_2534 : decode cL_law 2534 = .ok (.iadd, 1) := by decide +kernel
theorem d355_2535 : decode cL_law 2535 = .ok (.iaload, 1) := by decide +kernel
theorem d355_2536 : decode cL_law 2536 = .ok (.aload_n 0, 1) := by decide +kernel
theorem d355_2537 : decode cL_law 2537 = .ok (.iload 5, 2) := by decide +kernel
theorem d355_2539 : decode cL_law 2539 = .ok (.iconst 4, 1) := by decide +kernel
theorem d355_2540 : decode cL_law 2540 = .ok (.iadd, 1) := by decide +kernel
theorem d355_2541 : decode cL_law 2541 = .ok (.iaload, 1) := by decide +kernel
theorem d355_2542 : decode cL_law 2542 = .ok (.ifCond .eq 7, 3) := by decide +kernel
theorem d355_2545 : decode cL_law 2545 = .ok (.iconst 1, 1) := by decide +kernel
theorem d355_2546 : decode cL_law 2546 = .ok (.goto 4, 3) := by decide +kernel
theorem d355_2549 : decode cL_law 2549 = .ok (.iconst 0, 1) := by decide +kernel
theorem d355_2550 : decode cL_law 2550 = .ok (.aload_n 3, 1) := by decide +kernel
theorem d355_2551 : decode cL_law 2551 = .ok (.invokestatic 307, 3) := by decide +kernel
theorem d355_2554 : decode cL_law 2554 = .ok (.istore 6, 2) := by decide +kernel
theorem d355_2556 : decode cL_law 2556 = .ok (.aload_n 2, 1) := by decide +kernel
theorem d355_2557 : decode cL_law 2557 = .ok (.aload_n 0, 1) := by decide +kernel
theorem d355_2558 : decode cL_law 2558 = .ok (.iload 5, 2) := by decide +kernel
theorem d355_2560 : decode cL_law 2560 = .ok (.iconst 1, 1) := by decide +kernel
theorem d355_2561 : decode cL_law 2561 = .ok (.iadd, 1) := by decide +kernel
theorem d355_2562 : decode cL_law 2562 = .ok (.iaload, 1) := by decide +kernel
theorem d355_2563 : decode cL_law 2563 = .ok (.aload_n 0, 1) := by decide +kernel
theorem d355_2564 : decode cL_law 2564 = .ok (.iload 5, 2) := by decide +kernel
theorem d355_2566 : decode cL_law 2566 = .ok (.iconst 2, 1) := by decide +kernel
theorem d355_2567 : decode cL_law 2567 = .ok (.iadd, 1) := by decide +kernel
theorem d355_2568 : decode cL_law 2568 = .ok (.iaload, 1) := by decide +kernel
theorem d355_2569 : decode cL_law 2569 = .ok (.aload_n 0, 1) := by decide +kernel
theorem d355_2570 : decode cL_law 2570 = .ok (.iload 5, 2) := by decide +kernel
theorem d355_2572 : decode cL_law 2572 = .ok (.iconst 3, 1) := by decide +kernel
theorem d355_2573 : decode cL_law 2573 = .ok (.iadd, 1) := by decide +kernel
theorem d355_2574 : decode cL_law 2574 = .ok (.iaload, 1) := by decide +kernel
theorem d355_2575 : decode cL_law 2575 = .ok (.aload_n 0, 1) := by decide +kernel
theorem d355_2576 : decode cL_law 2576 = .ok (.iload 5, 2) := by decide +kernel
theorem d355_2578 : decode cL_law 2578 = .ok (.iconst 4, 1) := by decide +kernel
theorem d355_2579 : decode cL_law 2579 = .ok (.iadd, 1) := by decide +kernel
theorem d355_2580 : decode cL_law 2580 = .ok (.iaload, 1) := by decide +kernel
theorem d355_2581 : decode cL_law 2581 = .ok (.ifCond .eq 7, 3) := by decide +kernel
theorem d355_2584 : decode cL_law 2584 = .ok (.iconst 1, 1) := by decide +kernel
theorem d355_2585 : decode cL_law 2585 = .ok (.goto 4, 3) := by decide +kernel
theorem d355_2588 : decode cL_law 2588 = .ok (.iconst 0, 1) := by decide +kernel
theorem d355_2589 : decode cL_law 2589 = .ok (.invokevirtual 310, 3) := by decide +kernel
theorem d355_2592 : decode cL_law 2592 = .ok (.istore 7, 2) := by decide +kernel
theorem d355_2594 : decode cL_law 2594 = .ok (.aload_n 2, 1) := by decide +kernel
theorem d355_2595 : decode cL_law 2595 = .ok (.invokevirtual 194, 3) := by decide +kernel
theorem d355_2598 : decode cL_law 2598 = .ok (.iload 6, 2) := by decide +kernel
theorem d355_2600 : decode cL_law 2600 = .ok (.if_icmp .eq 5, 3) := by decide +kernel
theorem d355_2603 : decode cL_law 2603 = .ok (.iconst 0, 1) := by decide +kernel
theorem d355_2604 : decode cL_law 2604 = .ok (.ireturn, 1) := by decide +kernel
theorem d355_2605 : decode cL_law 2605 = .ok (.iload 6, 2) := by decide +kernel
theorem d355_2607 : decode cL_law 2607 = .ok (.ifCond .ne 22, 3) := by decide +kernel
theorem d355_2610 : decode cL_law 2610 = .ok (.aload_n 3, 1) := by decide +kernel
theorem d355_2611 : decode cL_law 2611 = .ok (.iconst 0, 1) := by decide +kernel
theorem d355_2612 : decode cL_law 2612 = .ok (.laload, 1) := by decide +kernel
theorem d355_2613 : decode cL_law 2613 = .ok (.iload 7, 2) := by decide +kernel
theorem d355_2615 : decode cL_law 2615 = .ok (.ifCond .eq 7, 3) := by decide +kernel
theorem d355_2618 : decode cL_law 2618 = .ok (.lconst 1, 1) := by decide +kernel
theorem d355_2619 : decode cL_law 2619 = .ok (.goto 4, 3) := by decide +kernel
theorem d355_2622 : decode cL_law 2622 = .ok (.lconst 0, 1) := by decide +kernel
theorem d355_2623 : decode cL_law 2623 = .ok (.lcmp, 1) := by decide +kernel
theorem d355_2624 : decode cL_law 2624 = .ok (.ifCond .eq 5, 3) := by decide +kernel
theorem d355_2627 : decode cL_law 2627 = .ok (.iconst 0, 1) := by decide +kernel
theorem d355_2628 : decode cL_law 2628 = .ok (.ireturn, 1) := by decide +kernel
theorem d355_2629 : decode cL_law 2629 = .ok (.goto 937, 3) := by decide +kernel
theorem d355_2632 : decode cL_law 2632 = .ok (.aload_n 1, 1) := by decide +kernel
theorem d355_2633 : decode cL_law 2633 = .ok (.aload_n 0, 1) := by decide +kernel
theorem d355_2634 : decode cL_law 2634 = .ok (.iload 5, 2) := by decide +kernel
theorem d355_2636 : decode cL_law 2636 = .ok (.iconst 1, 1) := by decide +kernel
theorem d355_2637 : decode cL_law 2637 = .ok (.iadd, 1) := by decide +kernel
theorem d355_2638 : decode cL_law 2638 = .ok (.iaload, 1) := by decide +kernel
theorem d355_2639 : decode cL_law 2639 = .ok (.aload_n 3, 1) := by decide +kernel
theorem d355_2640 : decode cL_law 2640 = .ok (.invokestatic 311, 3) := by decide +kernel
theorem d355_2643 : decode cL_law 2643 = .ok (.istore 6, 2) := by decide +kernel
theorem d355_2645 : decode cL_law 2645 = .ok (.aload_n 2, 1) := by decide +kernel
theorem d355_2646 : decode cL_law 2646 = .ok (.aload_n 0, 1) := by decide +kernel
theorem d355_2647 : decode cL_law 2647 = .ok (.iload 5, 2) := by decide +kernel
theorem d355_2649 : decode cL_law 2649 = .ok (.iconst 1, 1) := by decide +kernel
theorem d355_2650 : decode cL_law 2650 = .ok (.iadd, 1) := by decide +kernel
theorem d355_2651 : decode cL_law 2651 = .ok (.iaload, 1) := by decide +kernel
theorem d355_2652 : decode cL_law 2652 = .ok (.invokevirtual 313, 3) := by decide +kernel
theorem d355_2655 : decode cL_law 2655 = .ok (.istore 7, 2) := by decide +kernel
theorem d355_2657 : decode cL_law 2657 = .ok (.aload_n 2, 1) := by decide +kernel
theorem d355_2658 : decode cL_law 2658 = .ok (.invokevirtual 194, 3) := by decide +kernel
theorem d355_2661 : decode cL_law 2661 = .ok (.iload 6, 2) := by decide +kernel
theorem d355_2663 : decode cL_law 2663 = .ok (.if_icmp .eq 5, 3) := by decide +kernel
theorem d355_2666 : decode cL_law 2666 = .ok (.iconst 0, 1) := by decide +kernel
theorem d355_2667 : decode cL_law 2667 = .ok (.ireturn, 1) := by decide +kernel
theorem d355_2668 : decode cL_law 2668 = .ok (.iload 6, 2) := by decide +kernel
theorem d355_2670 : decode cL_law 2670 = .ok (.ifCond .ne 15, 3) := by decide +kernel
theorem d355_2673 : decode cL_law 2673 = .ok (.aload_n 3, 1) := by decide +kernel
theorem d355_2674 : decode cL_law 2674 = .ok (.iconst 0, 1) := by decide +kernel
theorem d355_2675 : decode cL_law 2675 = .ok (.laload, 1) := by decide +kernel
theorem d355_2676 : decode cL_law 2676 = .ok (.iload 7, 2) := by decide +kernel
theorem d355_2678 : decode cL_law 2678 = .ok (.i2l, 1) := by decide +kernel
theorem d355_2679 : decode cL_law 2679 = .ok (.lcmp, 1) := by decide +kernel
theorem d355_2680 : decode cL_law 2680 = .ok (.ifCond .eq 5, 3) := by decide +kernel
theorem d355_2683 : decode cL_law 2683 = .ok (.iconst 0, 1) := by decide +kernel
theorem d355_2684 : decode cL_law 2684 = .ok (.ireturn, 1) := by decide +kernel
theorem d355_2685 : decode cL_law 2685 = .ok (.goto 881, 3) := by decide +kernel
theorem d355_2688 : decode cL_law 2688 = .ok (.aload_n 1, 1) := by decide +kernel
theorem d355_2689 : decode cL_law 2689 = .ok (.aload_n 0, 1) := by decide +kernel
theorem d355_2690 : decode cL_law 2690 = .ok (.iload 5, 2) := by decide +kernel
theorem d355_2692 : decode cL_law 2692 = .ok (.iconst 1, 1) := by decide +kernel
theorem d355_2693 : decode cL_law 2693 = .ok (.iadd, 1) := by decide +kernel
theorem d355_2694 : decode cL_law 2694 = .ok (.iaload, 1) := by decide +kernel
theorem d355_2695 : decode cL_law 2695 = .ok (.aload_n 3, 1) := by decide +kernel
theorem d355_2696 : decode cL_law 2696 = .ok (.invokestatic 314, 3) := by decide +kernel
theorem d355_2699 : decode cL_law 2699 = .ok (.istore 6, 2) := by decide +kernel
theorem d355_2701 : decode cL_law 2701 = .ok (.aload_n 2, 1) := by decide +kernel
theorem d355_2702 : decode cL_law 2702 = .ok (.aload_n 0, 1) := by decide +kernel
theorem d355_2703 : decode cL_law 2703 = .ok (.iload 5, 2) := by decide +kernel
theorem d355_2705 : decode cL_law 2705 = .ok (.iconst 1, 1) := by decide +kernel
theorem d355_2706 : decode cL_law 2706 = .ok (.iadd, 1) := by decide +kernel
theorem d355_2707 : decode cL_law 2707 = .ok (.iaload, 1) := by decide +kernel
theorem d355_2708 : decode cL_law 2708 = .ok (.invokevirtual 316, 3) := by decide +kernel
theorem d355_2711 : decode cL_law 2711 = .ok (.istore 7, 2) := by decide +kernel
theorem d355_2713 : decode cL_law 2713 = .ok (.aload_n 2, 1) := by decide +kernel
theorem d355_2714 : decode cL_law 2714 = .ok (.invokevirtual 194, 3) := by decide +kernel
theorem d355_2717 : decode cL_law 2717 = .ok (.iload 6, 2) := by decide +kernel
theorem d355_2719 : decode cL_law 2719 = .ok (.if_icmp .eq 5, 3) := by decide +kernel
theorem d355_2722 : decode cL_law 2722 = .ok (.iconst 0, 1) := by decide +kernel
theorem d355_2723 : decode cL_law 2723 = .ok (.ireturn, 1) := by decide +kernel
theorem d355_2724 : decode cL_law 2724 = .ok (.iload 6, 2) := by decide +kernel
theorem d355_2726 : decode cL_law 2726 = .ok (.ifCond .ne 15, 3) := by decide +kernel
theorem d355_2729 : decode cL_law 2729 = .ok (.aload_n 3, 1) := by decide +kernel
theorem d355_2730 : decode cL_law 2730 = .ok (.iconst 0, 1) := by decide +kernel
theorem d355_2731 : decode cL_law 2731 = .ok (.laload, 1) := by decide +kernel
theorem d355_2732 : decode cL_law 2732 = .ok (.iload 7, 2) := by decide +kernel
theorem d355_2734 : decode cL_law 2734 = .ok (.i2l, 1) := by decide +kernel
theorem d355_2735 : decode cL_law 2735 = .ok (.lcmp, 1) := by decide +kernel
theorem d355_2736 : decode cL_law 2736 = .ok (.ifCond .eq 5, 3) := by decide +kernel
theorem d355_2739 : decode cL_law 2739 = .ok (.iconst 0, 1) := by decide +kernel
theorem d355_2740 : decode cL_law 2740 = .ok (.ireturn, 1) := by decide +kernel
theorem d355_2741 : decode cL_law 2741 = .ok (.goto 825, 3) := by decide +kernel
theorem d355_2744 : decode cL_law 2744 = .ok (.aload_n 1, 1) := by decide +kernel
theorem d355_2745 : decode cL_law 2745 = .ok (.aload_n 0, 1) := by decide +kernel
theorem d355_2746 : decode cL_law 2746 = .ok (.iload 5, 2) := by decide +kernel
theorem d355_2748 : decode cL_law 2748 = .ok (.iconst 1, 1) := by decide +kernel
theorem d355_2749 : decode cL_law 2749 = .ok (.iadd, 1) := by decide +kernel
theorem d355_2750 : decode cL_law 2750 = .ok (.iaload, 1) := by decide +kernel
theorem d355_2751 : decode cL_law 2751 = .ok (.aload_n 0, 1) := by decide +kernel
theorem d355_2752 : decode cL_law 2752 = .ok (.iload 5, 2) := by decide +kernel
theorem d355_2754 : decode cL_law 2754 = .ok (.iconst 2, 1) := by decide +kernel
theorem d355_2755 : decode cL_law 2755 = .ok (.iadd, 1) := by decide +kernel
theorem d355_2756 : decode cL_law 2756 = .ok (.iaload, 1) := by decide +kernel
theorem d355_2757 : decode cL_law 2757 = .ok (.aload_n 3, 1) := by decide +kernel
theorem d355_2758 : decode cL_law 2758 = .ok (.invokestatic 317, 3) := by decide +kernel
theorem d355_2761 : decode cL_law 2761 = .ok (.istore 6, 2) := by decide +kernel
theorem d355_2763 : decode cL_law 2763 = .ok (.aload_n 2, 1) := by decide +kernel
theorem d355_2764 : decode cL_law 2764 = .ok (.aload_n 0, 1) := by decide +kernel
theorem d355_2765 : decode cL_law 2765 = .ok (.iload 5, 2) := by decide +kernel
theorem d355_2767 : decode cL_law 2767 = .ok (.iconst 1, 1) := by decide +kernel
theorem d355_2768 : decode cL_law 2768 = .ok (.iadd, 1) := by decide +kernel
theorem d355_2769 : decode cL_law 2769 = .ok (.iaload, 1) := by decide +kernel
theorem d355_2770 : decode cL_law 2770 = .ok (.aload_n 0, 1) := by decide +kernel
theorem d355_2771 : decode cL_law 2771 = .ok (.iload 5, 2) := by decide +kernel
theorem d355_2773 : decode cL_law 2773 = .ok (.iconst 2, 1) := by decide +kernel
theorem d355_2774 : decode cL_law 2774 = .ok (.iadd, 1) := by decide +kernel
theorem d355_2775 : decode cL_law 2775 = .ok (.iaload, 1) := by decide +kernel
theorem d355_2776 : decode cL_law 2776 = .ok (.invokevirtual 319, 3) := by decide +kernel
theorem d355_2779 : decode cL_law 2779 = .ok (.istore 7, 2) := by decide +kernel
theorem d355_2781 : decode cL_law 2781 = .ok (.aload_n 2, 1) := by decide +kernel
theorem d355_2782 : decode cL_law 2782 = .ok (.invokevirtual 194, 3) := by decide +kernel
theorem d355_2785 : decode cL_law 2785 = .ok (.iload 6, 2) := by decide +kernel
theorem d355_2787 : decode cL_law 2787 = .ok (.if_icmp .eq 5, 3) := by decide +kernel
theorem d355_2790 : decode cL_law 2790 = .ok (.iconst 0, 1) := by decide +kernel
theorem d355_2791 : decode cL_law 2791 = .ok (.ireturn, 1) := by decide +kernel
theorem d355_2792 : decode cL_law 2792 = .ok (.iload 6, 2) := by decide +kernel
theorem d355_2794 : decode cL_law 2794 = .ok (.ifCond .ne 15, 3) := by decide +kernel
theorem d355_2797 : decode cL_law 2797 = .ok (.aload_n 3, 1) := by decide +kernel
theorem d355_2798 : decode cL_law 2798 = .ok (.iconst 0, 1) := by decide +kernel
theorem d355_2799 : decode cL_law 2799 = .ok (.laload, 1) := by decide +kernel
theorem d355_2800 : decode cL_law 2800 = .ok (.iload 7, 2) := by decide +kernel
theorem d355_2802 : decode cL_law 2802 = .ok (.i2l, 1) := by decide +kernel
theorem d355_2803 : decode cL_law 2803 = .ok (.lcmp, 1) := by decide +kernel
theorem d355_2804 : decode cL_law 2804 = .ok (.ifCond .eq 5, 3) := by decide +kernel
theorem d355_2807 : decode cL_law 2807 = .ok (.iconst 0, 1) := by decide +kernel
theorem d355_2808 : decode cL_law 2808 = .ok (.ireturn, 1) := by decide +kernel
theorem d355_2809 : decode cL_law 2809 = .ok (.goto 757, 3) := by decide +kernel
theorem d355_2812 : decode cL_law 2812 = .ok (.aload_n 1, 1) := by decide +kernel
theorem d355_2813 : decode cL_law 2813 = .ok (.aload_n 0, 1) := by decide +kernel
theorem d355_2814 : decode cL_law 2814 = .ok (.iload 5, 2) := by decide +kernel
theorem d355_2816 : decode cL_law 2816 = .ok (.iconst 1, 1) := by decide +kernel
theorem d355_2817 : decode cL_law 2817 = .ok (.iadd, 1) := by decide +kernel
theorem d355_2818 : decode cL_law 2818 = .ok (.iaload, 1) := by decide +kernel
theorem d355_2819 : decode cL_law 2819 = .ok (.aload_n 0, 1) := by decide +kernel
theorem d355_2820 : decode cL_law 2820 = .ok (.iload 5, 2) := by decide +kernel
theorem d355_2822 : decode cL_law 2822 = .ok (.iconst 2, 1) := by decide +kernel
theorem d355_2823 : decode cL_law 2823 = .ok (.iadd, 1) := by decide +kernel
theorem d355_2824 : decode cL_law 2824 = .ok (.iaload, 1) := by decide +kernel
theorem d355_2825 : decode cL_law 2825 = .ok (.aload_n 3, 1) := by decide +kernel
theorem d355_2826 : decode cL_law 2826 = .ok (.invokestatic 320, 3) := by decide +kernel
theorem d355_2829 : decode cL_law 2829 = .ok (.istore 6, 2) := by decide +kernel
theorem d355_2831 : decode cL_law 2831 = .ok (.aload_n 2, 1) := by decide +kernel
theorem d355_2832 : decode cL_law 2832 = .ok (.aload_n 0, 1) := by decide +kernel
theorem d355_2833 : decode cL_law 2833 = .ok (.iload 5, 2) := by decide +kernel
theorem d355_2835 : decode cL_law 2835 = .ok (.iconst 1, 1) := by decide +kernel
theorem d355_2836 : decode cL_law 2836 = .ok (.iadd, 1) := by decide +kernel
theorem d355_2837 : decode cL_law 2837 = .ok (.iaload, 1) := by decide +kernel
theorem d355_2838 : decode cL_law 2838 = .ok (.aload_n 0, 1) := by decide +kernel
theorem d355_2839 : decode cL_law 2839 = .ok (.iload 5, 2) := by decide +kernel
theorem d355_2841 : decode cL_law 2841 = .ok (.iconst 2, 1) := by decide +kernel
theorem d355_2842 : decode cL_law 2842 = .ok (.iadd, 1) := by decide +kernel
theorem d355_2843 : decode cL_law 2843 = .ok (.iaload, 1) := by decide +kernel
theorem d355_2844 : decode cL_law 2844 = .ok (.invokevirtual 322, 3) := by decide +kernel
theorem d355_2847 : decode cL_law 2847 = .ok (.istore 7, 2) := by decide +kernel
theorem d355_2849 : decode cL_law 2849 = .ok (.aload_n 2, 1) := by decide +kernel
theorem d355_2850 : decode cL_law 2850 = .ok (.invokevirtual 194, 3) := by decide +kernel
theorem d355_2853 : decode cL_law 2853 = .ok (.iload 6, 2) := by decide +kernel
theorem d355_2855 : decode cL_law 2855 = .ok (.if_icmp .eq 5, 3) := by decide +kernel
theorem d355_2858 : decode cL_law 2858 = .ok (.iconst 0, 1) := by decide +kernel
theorem d355_2859 : decode cL_law 2859 = .ok (.ireturn, 1) := by decide +kernel
theorem d355_2860 : decode cL_law 2860 = .ok (.iload 6, 2) := by decide +kernel
theorem d355_2862 : decode cL_law 2862 = .ok (.ifCond .ne 15, 3) := by decide +kernel
theorem d355_2865 : decode cL_law 2865 = .ok (.aload_n 3, 1) := by decide +kernel
theorem d355_2866 : decode cL_law 2866 = .ok (.iconst 0, 1) := by decide +kernel
theorem d355_2867 : decode cL_law 2867 = .ok (.laload, 1) := by decide +kernel
theorem d355_2868 : decode cL_law 2868 = .ok (.iload 7, 2) := by decide +kernel
theorem d355_2870 : decode cL_law 2870 = .ok (.i2l, 1) := by decide +kernel
theorem d355_2871 : decode cL_law 2871 = .ok (.lcmp, 1) := by decide +kernel
theorem d355_2872 : decode cL_law 2872 = .ok (.ifCond .eq 5, 3) := by decide +kernel
theorem d355_2875 : decode cL_law 2875 = .ok (.iconst 0, 1) := by decide +kernel
theorem d355_2876 : decode cL_law 2876 = .ok (.ireturn, 1) := by decide +kernel
theorem d355_2877 : decode cL_law 2877 = .ok (.goto 689, 3) := by decide +kernel
theorem d355_2880 : decode cL_law 2880 = .ok (.aload_n 1, 1) := by decide +kernel
theorem d355_2881 : decode cL_law 2881 = .ok (.aload_n 0, 1) := by decide +kernel
theorem d355_2882 : decode cL_law 2882 = .ok (.iload 5, 2) := by decide +kernel
theorem d355_2884 : decode cL_law 2884 = .ok (.iconst 1, 1) := by decide +kernel
theorem d355_2885 : decode cL_law 2885 = .ok (.iadd, 1) := by decide +kernel
theorem d355_2886 : decode cL_law 2886 = .ok (.iaload, 1) := by decide +kernel
theorem d355_2887 : decode cL_law 2887 = .ok (.aload_n 3, 1) := by decide +kernel
theorem d355_2888 : decode cL_law 2888 = .ok (.invokestatic 323, 3) := by decide +kernel
theorem d355_2891 : decode cL_law 2891 = .ok (.istore 6, 2) := by decide +kernel
theorem d355_2893 : decode cL_law 2893 = .ok (.aload_n 2, 1) := by decide +kernel
theorem d355_2894 : decode cL_law 2894 = .ok (.aload_n 0, 1) := by decide +kernel
theorem d355_2895 : decode cL_law 2895 = .ok (.iload 5, 2) := by decide +kernel
theorem d355_2897 : decode cL_law 2897 = .ok (.iconst 1, 1) := by decide +kernel
theorem d355_2898 : decode cL_law 2898 = .ok (.iadd, 1) := by decide +kernel
theorem d355_2899 : decode cL_law 2899 = .ok (.iaload, 1) := by decide +kernel
theorem d355_2900 : decode cL_law 2900 = .ok (.invokevirtual 325, 3) := by decide +kernel
theorem d355_2903 : decode cL_law 2903 = .ok (.istore 7, 2) := by decide +kernel
theorem d355_2905 : decode cL_law 2905 = .ok (.aload_n 2, 1) := by decide +kernel
theorem d355_2906 : decode cL_law 2906 = .ok (.invokevirtual 194, 3) := by decide +kernel
theorem d355_2909 : decode cL_law 2909 = .ok (.iload 6, 2) := by decide +kernel
theorem d355_2911 : decode cL_law 2911 = .ok (.if_icmp .eq 5, 3) := by decide +kernel
theorem d355_2914 : decode cL_law 2914 = .ok (.iconst 0, 1) := by decide +kernel
theorem d355_2915 : decode cL_law 2915 = .ok (.ireturn, 1) := by decide +kernel
theorem d355_2916 : decode cL_law 2916 = .ok (.iload 6, 2) := by decide +kernel
theorem d355_2918 : decode cL_law 2918 = .ok (.ifCond .ne 15, 3) := by decide +kernel
theorem d355_2921 : decode cL_law 2921 = .ok (.aload_n 3, 1) := by decide +kernel
theorem d355_2922 : decode cL_law 2922 = .ok (.iconst 0, 1) := by decide +kernel
theorem d355_2923 : decode cL_law 2923 = .ok (.laload, 1) := by decide +kernel
theorem d355_2924 : decode cL_law 2924 = .ok (.iload 7, 2) := by decide +kernel
theorem d355_2926 : decode cL_law 2926 = .ok (.i2l, 1) := by decide +kernel
theorem d355_2927 : decode cL_law 2927 = .ok (.lcmp, 1) := by decide +kernel
theorem d355_2928 : decode cL_law 2928 = .ok (.ifCond .eq 5, 3) := by decide +kernel
theorem d355_2931 : decode cL_law 2931 = .ok (.iconst 0, 1) := by decide +kernel
theorem d355_2932 : decode cL_law 2932 = .ok (.ireturn, 1) := by decide +kernel
theorem d355_2933 : decode cL_law 2933 = .ok (.goto 633, 3) := by decide +kernel
theorem d355_2936 : decode cL_law 2936 = .ok (.aload_n 1, 1) := by decide +kernel
theorem d355_2937 : decode cL_law 2937 = .ok (.aload_n 0, 1) := by decide +kernel
theorem d355_2938 : decode cL_law 2938 = .ok (.iload 5, 2) := by decide +kernel
theorem d355_2940 : decode cL_law 2940 = .ok (.iconst 1, 1) := by decide +kernel
theorem d355_2941 : decode cL_law 2941 = .ok (.iadd, 1) := by decide +kernel
theorem d355_2942 : decode cL_law 2942 = .ok (.iaload, 1) := by decide +kernel
theorem d355_2943 : decode cL_law 2943 = .ok (.aload_n 3, 1) := by decide +kernel
theorem d355_2944 : decode cL_law 2944 = .ok (.invokestatic 326, 3) := by decide +kernel
theorem d355_2947 : decode cL_law 2947 = .ok (.istore 6, 2) := by decide +kernel
theorem d355_2949 : decode cL_law 2949 = .ok (.aload_n 2, 1) := by decide +kernel
theorem d355_2950 : decode cL_law 2950 = .ok (.aload_n 0, 1) := by decide +kernel
theorem d355_2951 : decode cL_law 2951 = .ok (.iload 5, 2) := by decide +kernel
theorem d355_2953 : decode cL_law 2953 = .ok (.iconst 1, 1) := by decide +kernel
theorem d355_2954 : decode cL_law 2954 = .ok (.iadd, 1) := by decide +kernel
theorem d355_2955 : decode cL_law 2955 = .ok (.iaload, 1) := by decide +kernel
theorem d355_2956 : decode cL_law 2956 = .ok (.invokevirtual 328, 3) := by decide +kernel
theorem d355_2959 : decode cL_law 2959 = .ok (.istore 7, 2) := by decide +kernel
theorem d355_2961 : decode cL_law 2961 = .ok (.aload_n 2, 1) := by decide +kernel
theorem d355_2962 : decode cL_law 2962 = .ok (.invokevirtual 194, 3) := by decide +kernel
theorem d355_2965 : decode cL_law 2965 = .ok (.iload 6, 2) := by decide +kernel
theorem d355_2967 : decode cL_law 2967 = .ok (.if_icmp .eq 5, 3) := by decide +kernel
theorem d355_2970 : decode cL_law 2970 = .ok (.iconst 0, 1) := by decide +kernel
theorem d355_2971 : decode cL_law 2971 = .ok (.ireturn, 1) := by decide +kernel
theorem d355_2972 : decode cL_law 2972 = .ok (.iload 6, 2) := by decide +kernel
theorem d355_2974 : decode cL_law 2974 = .ok (.ifCond .ne 15, 3) := by decide +kernel
theorem d355_2977 : decode cL_law 2977 = .ok (.aload_n 3, 1) := by decide +kernel
theorem d355_2978 : decode cL_law 2978 = .ok (.iconst 0, 1) := by decide +kernel
theorem d355_2979 : decode cL_law 2979 = .ok (.laload, 1) := by decide +kernel
theorem d355_2980 : decode cL_law 2980 = .ok (.iload 7, 2) := by decide +kernel
theorem d355_2982 : decode cL_law 2982 = .ok (.i2l, 1) := by decide +kernel
theorem d355_2983 : decode cL_law 2983 = .ok (.lcmp, 1) := by decide +kernel
theorem d355_2984 : decode cL_law 2984 = .ok (.ifCond .eq 5, 3) := by decide +kernel
theorem d355_2987 : decode cL_law 2987 = .ok (.iconst 0, 1) := by decide +kernel
theorem d355_2988 : decode cL_law 2988 = .ok (.ireturn, 1) := by decide +kernel
theorem d355_2989 : decode cL_law 2989 = .ok (.goto 577, 3) := by decide +kernel
theorem d355_2992 : decode cL_law 2992 = .ok (.aload_n 1, 1) := by decide +kernel
theorem d355_2993 : decode cL_law 2993 = .ok (.aload_n 0, 1) := by decide +kernel
theorem d355_2994 : decode cL_law 2994 = .ok (.iload 5, 2) := by decide +kernel
theorem d355_2996 : decode cL_law 2996 = .ok (.iconst 1, 1) := by decide +kernel
theorem d355_2997 : decode cL_law 2997 = .ok (.iadd, 1) := by decide +kernel
theorem d355_2998 : decode cL_law 2998 = .ok (.iaload, 1) := by decide +kernel
theorem d355_2999 : decode cL_law 2999 = .ok (.aload_n 3, 1) := by decide +kernel
theorem d355_3000 : decode cL_law 3000 = .ok (.invokestatic 329, 3) := by decide +kernel
theorem d355_3003 : decode cL_law 3003 = .ok (.istore 6, 2) := by decide +kernel
theorem d355_3005 : decode cL_law 3005 = .ok (.aload_n 2, 1) := by decide +kernel
theorem d355_3006 : decode cL_law 3006 = .ok (.aload_n 0, 1) := by decide +kernel
theorem d355_3007 : decode cL_law 3007 = .ok (.iload 5, 2) := by decide +kernel
theorem d355_3009 : decode cL_law 3009 = .ok (.iconst 1, 1) := by decide +kernel
theorem d355_3010 : decode cL_law 3010 = .ok (.iadd, 1) := by decide +kernel
theorem d355_3011 : decode cL_law 3011 = .ok (.iaload, 1) := by decide +kernel
theorem d355_3012 : decode cL_law 3012 = .ok (.invokevirtual 331, 3) := by decide +kernel
theorem d355_3015 : decode cL_law 3015 = .ok (.istore 7, 2) := by decide +kernel
theorem d355_3017 : decode cL_law 3017 = .ok (.aload_n 2, 1) := by decide +kernel
theorem d355_3018 : decode cL_law 3018 = .ok (.invokevirtual 194, 3) := by decide +kernel
theorem d355_3021 : decode cL_law 3021 = .ok (.iload 6, 2) := by decide +kernel
theorem d355_3023 : decode cL_law 3023 = .ok (.if_icmp .eq 5, 3) := by decide +kernel
theorem d355_3026 : decode cL_law 3026 = .ok (.iconst 0, 1) := by decide +kernel
theorem d355_3027 : decode cL_law 3027 = .ok (.ireturn, 1) := by decide +kernel
theorem d355_3028 : decode cL_law 3028 = .ok (.iload 6, 2) := by decide +kernel
theorem d355_3030 : decode cL_law 3030 = .ok (.ifCond .ne 15, 3) := by decide +kernel
theorem d355_3033 : decode cL_law 3033 = .ok (.aload_n 3, 1) := by decide +kernel
theorem d355_3034 : decode cL_law 3034 = .ok (.iconst 0, 1) := by decide +kernel
theorem d355_3035 : decode cL_law 3035 = .ok (.laload, 1) := by decide +kernel
theorem d355_3036 : decode cL_law 3036 = .ok (.iload 7, 2) := by decide +kernel
theorem d355_3038 : decode cL_law 3038 = .ok (.i2l, 1) := by decide +kernel
theorem d355_3039 : decode cL_law 3039 = .ok (.lcmp, 1) := by decide +kernel
theorem d355_3040 : decode cL_law 3040 = .ok (.ifCond .eq 5, 3) := by decide +kernel
theorem d355_3043 : decode cL_law 3043 = .ok (.iconst 0, 1) := by decide +kernel
theorem d355_3044 : decode cL_law 3044 = .ok (.ireturn, 1) := by decide +kernel
theorem d355_3045 : decode cL_law 3045 = .ok (.goto 521, 3) := by decide +kernel
theorem d355_3048 : decode cL_law 3048 = .ok (.aload_n 1, 1) := by decide +kernel
theorem d355_3049 : decode cL_law 3049 = .ok (.aload_n 0, 1) := by decide +kernel
theorem d355_3050 : decode cL_law 3050 = .ok (.iload 5, 2) := by decide +kernel
theorem d355_3052 : decode cL_law 3052 = .ok (.iconst 1, 1) := by decide +kernel
theorem d355_3053 : decode cL_law 3053 = .ok (.iadd, 1) := by decide +kernel
theorem d355_3054 : decode cL_law 3054 = .ok (.iaload, 1) := by decide +kernel
theorem d355_3055 : decode cL_law 3055 = .ok (.aload_n 3, 1) := by decide +kernel
theorem d355_3056 : decode cL_law 3056 = .ok (.invokestatic 332, 3) := by decide +kernel
theorem d355_3059 : decode cL_law 3059 = .ok (.istore 6, 2) := by decide +kernel
theorem d355_3061 : decode cL_law 3061 = .ok (.aload_n 2, 1) := by decide +kernel
theorem d355_3062 : decode cL_law 3062 = .ok (.aload_n 0, 1) := by decide +kernel
theorem d355_3063 : decode cL_law 3063 = .ok (.iload 5, 2) := by decide +kernel
theorem d355_3065 : decode cL_law 3065 = .ok (.iconst 1, 1) := by decide +kernel
theorem d355_3066 : decode cL_law 3066 = .ok (.iadd, 1) := by decide +kernel
theorem d355_3067 : decode cL_law 3067 = .ok (.iaload, 1) := by decide +kernel
theorem d355_3068 : decode cL_law 3068 = .ok (.invokevirtual 334, 3) := by decide +kernel
theorem d355_3071 : decode cL_law 3071 = .ok (.istore 7, 2) := by decide +kernel
theorem d355_3073 : decode cL_law 3073 = .ok (.aload_n 2, 1) := by decide +kernel
theorem d355_3074 : decode cL_law 3074 = .ok (.invokevirtual 194, 3) := by decide +kernel
theorem d355_3077 : decode cL_law 3077 = .ok (.iload 6, 2) := by decide +kernel
theorem d355_3079 : decode cL_law 3079 = .ok (.if_icmp .eq 5, 3) := by decide +kernel
theorem d355_3082 : decode cL_law 3082 = .ok (.iconst 0, 1) := by decide +kernel
theorem d355_3083 : decode cL_law 3083 = .ok (.ireturn, 1) := by decide +kernel
theorem d355_3084 : decode cL_law 3084 = .ok (.iload 6, 2) := by decide +kernel
theorem d355_3086 : decode cL_law 3086 = .ok (.ifCond .ne 15, 3) := by decide +kernel
theorem d355_3089 : decode cL_law 3089 = .ok (.aload_n 3, 1) := by decide +kernel
theorem d355_3090 : decode cL_law 3090 = .ok (.iconst 0, 1) := by decide +kernel
theorem d355_3091 : decode cL_law 3091 = .ok (.laload, 1) := by decide +kernel
theorem d355_3092 : decode cL_law 3092 = .ok (.iload 7, 2) := by decide +kernel
theorem d355_3094 : decode cL_law 3094 = .ok (.i2l, 1) := by decide +kernel
theorem d355_3095 : decode cL_law 3095 = .ok (.lcmp, 1) := by decide +kernel
theorem d355_3096 : decode cL_law 3096 = .ok (.ifCond .eq 5, 3) := by decide +kernel
theorem d355_3099 : decode cL_law 3099 = .ok (.iconst 0, 1) := by decide +kernel
theorem d355_3100 : decode cL_law 3100 = .ok (.ireturn, 1) := by decide +kernel
theorem d355_3101 : decode cL_law 3101 = .ok (.goto 465, 3) := by decide +kernel
theorem d355_3104 : decode cL_law 3104 = .ok (.aload_n 1, 1) := by decide +kernel
theorem d355_3105 : decode cL_law 3105 = .ok (.aload_n 0, 1) := by decide +kernel
theorem d355_3106 : decode cL_law 3106 = .ok (.iload 5, 2) := by decide +kernel
theorem d355_3108 : decode cL_law 3108 = .ok (.iconst 1, 1) := by decide +kernel
theorem d355_3109 : decode cL_law 3109 = .ok (.iadd, 1) := by decide +kernel
theorem d355_3110 : decode cL_law 3110 = .ok (.iaload, 1) := by decide +kernel
theorem d355_3111 : decode cL_law 3111 = .ok (.aload_n 3, 1) := by decide +kernel
theorem d355_3112 : decode cL_law 3112 = .ok (.invokestatic 335, 3) := by decide +kernel
theorem d355_3115 : decode cL_law 3115 = .ok (.istore 6, 2) := by decide +kernel
theorem d355_3117 : decode cL_law 3117 = .ok (.aload_n 2, 1) := by decide +kernel
theorem d355_3118 : decode cL_law 3118 = .ok (.aload_n 0, 1) := by decide +kernel
theorem d355_3119 : decode cL_law 3119 = .ok (.iload 5, 2) := by decide +kernel
theorem d355_3121 : decode cL_law 3121 = .ok (.iconst 1, 1) := by decide +kernel
theorem d355_3122 : decode cL_law 3122 = .ok (.iadd, 1) := by decide +kernel
theorem d355_3123 : decode cL_law 3123 = .ok (.iaload, 1) := by decide +kernel
theorem d355_3124 : decode cL_law 3124 = .ok (.invokevirtual 337, 3) := by decide +kernel
theorem d355_3127 : decode cL_law 3127 = .ok (.istore 7, 2) := by decide +kernel
theorem d355_3129 : decode cL_law 3129 = .ok (.aload_n 2, 1) := by decide +kernel
theorem d355_3130 : decode cL_law 3130 = .ok (.invokevirtual 194, 3) := by decide +kernel
theorem d355_3133 : decode cL_law 3133 = .ok (.iload 6, 2) := by decide +kernel
theorem d355_3135 : decode cL_law 3135 = .ok (.if_icmp .eq 5, 3) := by decide +kernel
theorem d355_3138 : decode cL_law 3138 = .ok (.iconst 0, 1) := by decide +kernel
theorem d355_3139 : decode cL_law 3139 = .ok (.ireturn, 1) := by decide +kernel
theorem d355_3140 : decode cL_law 3140 = .ok (.iload 6, 2) := by decide +kernel
theorem d355_3142 : decode cL_law 3142 = .ok (.ifCond .ne 15, 3) := by decide +kernel
theorem d355_3145 : decode cL_law 3145 = .ok (.aload_n 3, 1) := by decide +kernel
theorem d355_3146 : decode cL_law 3146 = .ok (.iconst 0, 1) := by decide +kernel
theorem d355_3147 : decode cL_law 3147 = .ok (.laload, 1) := by decide +kernel
theorem d355_3148 : decode cL_law 3148 = .ok (.iload 7, 2) := by decide +kernel
theorem d355_3150 : decode cL_law 3150 = .ok (.i2l, 1) := by decide +kernel
theorem d355_3151 : decode cL_law 3151 = .ok (.lcmp, 1) := by decide +kernel
theorem d355_3152 : decode cL_law 3152 = .ok (.ifCond .eq 5, 3) := by decide +kernel
theorem d355_3155 : decode cL_law 3155 = .ok (.iconst 0, 1) := by decide +kernel
theorem d355_3156 : decode cL_law 3156 = .ok (.ireturn, 1) := by decide +kernel
theorem d355_3157 : decode cL_law 3157 = .ok (.goto 409, 3) := by decide +kernel
theorem d355_3160 : decode cL_law 3160 = .ok (.aload_n 1, 1) := by decide +kernel
theorem d355_3161 : decode cL_law 3161 = .ok (.aload_n 0, 1) := by decide +kernel
theorem d355_3162 : decode cL_law 3162 = .ok (.iload 5, 2) := by decide +kernel
theorem d355_3164 : decode cL_law 3164 = .ok (.iconst 1, 1) := by decide +kernel
theorem d355_3165 : decode cL_law 3165 = .ok (.iadd, 1) := by decide +kernel
theorem d355_3166 : decode cL_law 3166 = .ok (.iaload, 1) := by decide +kernel
theorem d355_3167 : decode cL_law 3167 = .ok (.aload 4, 2) := by decide +kernel
theorem d355_3169 : decode cL_law 3169 = .ok (.invokestatic 338, 3) := by decide +kernel
theorem d355_3172 : decode cL_law 3172 = .ok (.istore 6, 2) := by decide +kernel
theorem d355_3174 : decode cL_law 3174 = .ok (.aload_n 2, 1) := by decide +kernel
theorem d355_3175 : decode cL_law 3175 = .ok (.aload_n 0, 1) := by decide +kernel
theorem d355_3176 : decode cL_law 3176 = .ok (.iload 5, 2) := by decide +kernel
theorem d355_3178 : decode cL_law 3178 = .ok (.iconst 1, 1) := by decide +kernel
theorem d355_3179 : decode cL_law 3179 = .ok (.iadd, 1) := by decide +kernel
theorem d355_3180 : decode cL_law 3180 = .ok (.iaload, 1) := by decide +kernel
theorem d355_3181 : decode cL_law 3181 = .ok (.invokevirtual 341, 3) := by decide +kernel
theorem d355_3184 : decode cL_law 3184 = .ok (.dstore 7, 2) := by decide +kernel
theorem d355_3186 : decode cL_law 3186 = .ok (.aload_n 2, 1) := by decide +kernel
theorem d355_3187 : decode cL_law 3187 = .ok (.invokevirtual 194, 3) := by decide +kernel
theorem d355_3190 : decode cL_law 3190 = .ok (.iload 6, 2) := by decide +kernel
theorem d355_3192 : decode cL_law 3192 = .ok (.if_icmp .eq 5, 3) := by decide +kernel
theorem d355_3195 : decode cL_law 3195 = .ok (.iconst 0, 1) := by decide +kernel
theorem d355_3196 : decode cL_law 3196 = .ok (.ireturn, 1) := by decide +kernel
theorem d355_3197 : decode cL_law 3197 = .ok (.iload 6, 2) := by decide +kernel
theorem d355_3199 : decode cL_law 3199 = .ok (.ifCond .ne 35, 3) := by decide +kernel
theorem d355_3202 : decode cL_law 3202 = .ok (.aload 4, 2) := by decide +kernel
theorem d355_3204 : decode cL_law 3204 = .ok (.iconst 0, 1) := by decide +kernel
theorem d355_3205 : decode cL_law 3205 = .ok (.daload, 1) := by decide +kernel
theorem d355_3206 : decode cL_law 3206 = .ok (.dload 7, 2) := by decide +kernel
theorem d355_3208 : decode cL_law 3208 = .ok (.dcmp .l, 1) := by decide +kernel
theorem d355_3209 : decode cL_law 3209 = .ok (.ifCond .eq 25, 3) := by decide +kernel
theorem d355_3212 : decode cL_law 3212 = .ok (.aload 4, 2) := by decide +kernel
theorem d355_3214 : decode cL_law 3214 = .ok (.iconst 0, 1) := by decide +kernel
theorem d355_3215 : decode cL_law 3215 = .ok (.daload, 1) := by decide +kernel
theorem d355_3216 : decode cL_law 3216 = .ok (.aload 4, 2) := by decide +kernel
theorem d355_3218 : decode cL_law 3218 = .ok (.iconst 0, 1) := by decide +kernel
theorem d355_3219 : decode cL_law 3219 = .ok (.daload, 1) := by decide +kernel
theorem d355_3220 : decode cL_law 3220 = .ok (.dcmp .l, 1) := by decide +kernel
theorem d355_3221 : decode cL_law 3221 = .ok (.ifCond .eq 11, 3) := by decide +kernel
theorem d355_3224 : decode cL_law 3224 = .ok (.dload 7, 2) := by decide +kernel
theorem d355_3226 : decode cL_law 3226 = .ok (.dload 7, 2) := by decide +kernel
theorem d355_3228 : decode cL_law 3228 = .ok (.dcmp .l, 1) := by decide +kernel
theorem d355_3229 : decode cL_law 3229 = .ok (.ifCond .ne 5, 3) := by decide +kernel
theorem d355_3232 : decode cL_law 3232 = .ok (.iconst 0, 1) := by decide +kernel
theorem d355_3233 : decode cL_law 3233 = .ok (.ireturn, 1) := by decide +kernel
theorem d355_3234 : decode cL_law 3234 = .ok (.goto 332, 3) := by decide +kernel
theorem d355_3237 : decode cL_law 3237 = .ok (.aload_n 1, 1) := by decide +kernel
theorem d355_3238 : decode cL_law 3238 = .ok (.invokevirtual 342, 3) := by decide +kernel
theorem d355_3241 : decode cL_law 3241 = .ok (.f2d, 1) := by decide +kernel
theorem d355_3242 : decode cL_law 3242 = .ok (.dstore 6, 2) := by decide +kernel
theorem d355_3244 : decode cL_law 3244 = .ok (.aload_n 2, 1) := by decide +kernel
theorem d355_3245 : decode cL_law 3245 = .ok (.invokevirtual 346, 3) := by decide +kernel
theorem d355_3248 : decode cL_law 3248 = .ok (.f2d, 1) := by decide +kernel
theorem d355_3249 : decode cL_law 3249 = .ok (.dstore 8, 2) := by decide +kernel
theorem d355_3251 : decode cL_law 3251 = .ok (.dload 6, 2) := by decide +kernel
theorem d355_3253 : decode cL_law 3253 = .ok (.dload 8, 2) := by decide +kernel
theorem d355_3255 : decode cL_law 3255 = .ok (.dcmp .l, 1) := by decide +kernel
theorem d355_3256 : decode cL_law 3256 = .ok (.ifCond .eq 21, 3) := by decide +kernel
theorem d355_3259 : decode cL_law 3259 = .ok (.dload 6, 2) := by decide +kernel
theorem d355_3261 : decode cL_law 3261 = .ok (.dload 6, 2) := by decide +kernel
theorem d355_3263 : decode cL_law 3263 = .ok (.dcmp .l, 1) := by decide +kernel
theorem d355_3264 : decode cL_law 3264 = .ok (.ifCond .eq 11, 3) := by decide +kernel
theorem d355_3267 : decode cL_law 3267 = .ok (.dload 8, 2) := by decide +kernel
theorem d355_3269 : decode cL_law 3269 = .ok (.dload 8, 2) := by decide +kernel
theorem d355_3271 : decode cL_law 3271 = .ok (.dcmp .l, 1) := by decide +kernel
theorem d355_3272 : decode cL_law 3272 = .ok (.ifCond .ne 5, 3) := by decide +kernel
theorem d355_3275 : decode cL_law 3275 = .ok (.iconst 0, 1) := by decide +kernel
theorem d355_3276 : decode cL_law 3276 = .ok (.ireturn, 1) := by decide +kernel
theorem d355_3277 : decode cL_law 3277 = .ok (.goto 289, 3) := by decide +kernel
theorem d355_3280 : decode cL_law 3280 = .ok (.aload_n 1, 1) := by decide +kernel
theorem d355_3281 : decode cL_law 3281 = .ok (.aload_n 0, 1) := by decide +kernel
theorem d355_3282 : decode cL_law 3282 = .ok (.iload 5, 2) := by decide +kernel
theorem d355_3284 : decode cL_law 3284 = .ok (.iconst 1, 1) := by decide +kernel
theorem d355_3285 : decode cL_law 3285 = .ok (.iadd, 1) := by decide +kernel
theorem d355_3286 : decode cL_law 3286 = .ok (.iaload, 1) := by decide +kernel
theorem d355_3287 : decode cL_law 3287 = .ok (.aload_n 0, 1) := by decide +kernel
theorem d355_3288 : decode cL_law 3288 = .ok (.iload 5, 2) := by decide +kernel
theorem d355_3290 : decode cL_law 3290 = .ok (.iconst 2, 1) := by decide +kernel
theorem d355_3291 : decode cL_law 3291 = .ok (.iadd, 1) := by decide +kernel
theorem d355_3292 : decode cL_law 3292 = .ok (.iaload, 1) := by decide +kernel
theorem d355_3293 : decode cL_law 3293 = .ok (.aload_n 3, 1) := by decide +kernel
theorem d355_3294 : decode cL_law 3294 = .ok (.invokestatic 347, 3) := by decide +kernel
theorem d355_3297 : decode cL_law 3297 = .ok (.istore 6, 2) := by decide +kernel
theorem d355_3299 : decode cL_law 3299 = .ok (.aload_n 2, 1) := by decide +kernel
theorem d355_3300 : decode cL_law 3300 = .ok (.aload_n 0, 1) := by decide +kernel
theorem d355_3301 : decode cL_law 3301 = .ok (.iload 5, 2) := by decide +kernel
theorem d355_3303 : decode cL_law 3303 = .ok (.iconst 1, 1) := by decide +kernel
theorem d355_3304 : decode cL_law 3304 = .ok (.iadd, 1) := by decide +kernel
theorem d355_3305 : decode cL_law 3305 = .ok (.iaload, 1) := by decide +kernel
theorem d355_3306 : decode cL_law 3306 = .ok (.aload_n 0, 1) := by decide +kernel
theorem d355_3307 : decode cL_law 3307 = .ok (.iload 5, 2) := by decide +kernel
theorem d355_3309 : decode cL_law 3309 = .ok (.iconst 2, 1) := by decide +kernel
theorem d355_3310 : decode cL_law 3310 = .ok (.iadd, 1) := by decide +kernel
theorem d355_3311 : decode cL_law 3311 = .ok (.iaload, 1) := by decide +kernel
theorem d355_3312 : decode cL_law 3312 = .ok (.invokevirtual 349, 3) := by decide +kernel
theorem d355_3315 : decode cL_law 3315 = .ok (.istore 7, 2) := by decide +kernel
theorem d355_3317 : decode cL_law 3317 = .ok (.aload_n 2, 1) := by decide +kernel
theorem d355_3318 : decode cL_law 3318 = .ok (.invokevirtual 194, 3) := by decide +kernel
theorem d355_3321 : decode cL_law 3321 = .ok (.iload 6, 2) := by decide +kernel
theorem d355_3323 : decode cL_law 3323 = .ok (.if_icmp .eq 5, 3) := by decide +kernel
theorem d355_3326 : decode cL_law 3326 = .ok (.iconst 0, 1) := by decide +kernel
theorem d355_3327 : decode cL_law 3327 = .ok (.ireturn, 1) := by decide +kernel
theorem d355_3328 : decode cL_law 3328 = .ok (.iload 6, 2) := by decide +kernel
theorem d355_3330 : decode cL_law 3330 = .ok (.ifCond .ne 15, 3) := by decide +kernel
theorem d355_3333 : decode cL_law 3333 = .ok (.aload_n 3, 1) := by decide +kernel
theorem d355_3334 : decode cL_law 3334 = .ok (.iconst 0, 1) := by decide +kernel
theorem d355_3335 : decode cL_law 3335 = .ok (.laload, 1) := by decide +kernel
theorem d355_3336 : decode cL_law 3336 = .ok (.iload 7, 2) := by decide +kernel
theorem d355_3338 : decode cL_law 3338 = .ok (.i2l, 1) := by decide +kernel
theorem d355_3339 : decode cL_law 3339 = .ok (.lcmp, 1) := by decide +kernel
theorem d355_3340 : decode cL_law 3340 = .ok (.ifCond .eq 5, 3) := by decide +kernel
theorem d355_3343 : decode cL_law 3343 = .ok (.iconst 0, 1) := by decide +kernel
theorem d355_3344 : decode cL_law 3344 = .ok (.ireturn, 1) := by decide +kernel
theorem d355_3345 : decode cL_law 3345 = .ok (.goto 221, 3) := by decide +kernel
theorem d355_3348 : decode cL_law 3348 = .ok (.aload_n 1, 1) := by decide +kernel
theorem d355_3349 : decode cL_law 3349 = .ok (.aload_n 0, 1) := by decide +kernel
theorem d355_3350 : decode cL_law 3350 = .ok (.iload 5, 2) := by decide +kernel
theorem d355_3352 : decode cL_law 3352 = .ok (.iconst 1, 1) := by decide +kernel
theorem d355_3353 : decode cL_law 3353 = .ok (.iadd, 1) := by decide +kernel
theorem d355_3354 : decode cL_law 3354 = .ok (.iaload, 1) := by decide +kernel
theorem d355_3355 : decode cL_law 3355 = .ok (.aload_n 0, 1) := by decide +kernel
theorem d355_3356 : decode cL_law 3356 = .ok (.iload 5, 2) := by decide +kernel
theorem d355_3358 : decode cL_law 3358 = .ok (.iconst 2, 1) := by decide +kernel
theorem d355_3359 : decode cL_law 3359 = .ok (.iadd, 1) := by decide +kernel
theorem d355_3360 : decode cL_law 3360 = .ok (.iaload, 1) := by decide +kernel
theorem d355_3361 : decode cL_law 3361 = .ok (.aload_n 3, 1) := by decide +kernel
theorem d355_3362 : decode cL_law 3362 = .ok (.invokestatic 350, 3) := by decide +kernel
theorem d355_3365 : decode cL_law 3365 = .ok (.istore 6, 2) := by decide +kernel
theorem d355_3367 : decode cL_law 3367 = .ok (.aload_n 2, 1) := by decide +kernel
theorem d355_3368 : decode cL_law 3368 = .ok (.aload_n 0, 1) := by decide +kernel
theorem d355_3369 : decode cL_law 3369 = .ok (.iload 5, 2) := by decide +kernel
theorem d355_3371 : decode cL_law 3371 = .ok (.iconst 1, 1) := by decide +kernel
theorem d355_3372 : decode cL_law 3372 = .ok (.iadd, 1) := by decide +kernel
theorem d355_3373 : decode cL_law 3373 = .ok (.iaload, 1) := by decide +kernel
theorem d355_3374 : decode cL_law 3374 = .ok (.aload_n 0, 1) := by decide +kernel
theorem d355_3375 : decode cL_law 3375 = .ok (.iload 5, 2) := by decide +kernel
theorem d355_3377 : decode cL_law 3377 = .ok (.iconst 2, 1) := by decide +kernel
theorem d355_3378 : decode cL_law 3378 = .ok (.iadd, 1) := by decide +kernel
theorem d355_3379 : decode cL_law 3379 = .ok (.iaload, 1) := by decide +kernel
theorem d355_3380 : decode cL_law 3380 = .ok (.invokevirtual 352, 3) := by decide +kernel
theorem d355_3383 : decode cL_law 3383 = .ok (.istore 7, 2) := by decide +kernel
theorem d355_3385 : decode cL_law 3385 = .ok (.aload_n 2, 1) := by decide +kernel
theorem d355_3386 : decode cL_law 3386 = .ok (.invokevirtual 194, 3) := by decide +kernel
theorem d355_3389 : decode cL_law 3389 = .ok (.iload 6, 2) := by decide +kernel
theorem d355_3391 : decode cL_law 3391 = .ok (.if_icmp .eq 5, 3) := by decide +kernel
theorem d355_3394 : decode cL_law 3394 = .ok (.iconst 0, 1) := by decide +kernel
theorem d355_3395 : decode cL_law 3395 = .ok (.ireturn, 1) := by decide +kernel
theorem d355_3396 : decode cL_law 3396 = .ok (.iload 6, 2) := by decide +kernel
theorem d355_3398 : decode cL_law 3398 = .ok (.ifCond .ne 15, 3) := by decide +kernel
theorem d355_3401 : decode cL_law 3401 = .ok (.aload_n 3, 1) := by decide +kernel
theorem d355_3402 : decode cL_law 3402 = .ok (.iconst 0, 1) := by decide +kernel
theorem d355_3403 : decode cL_law 3403 = .ok (.laload, 1) := by decide +kernel
theorem d355_3404 : decode cL_law 3404 = .ok (.iload 7, 2) := by decide +kernel
theorem d355_3406 : decode cL_law 3406 = .ok (.i2l, 1) := by decide +kernel
theorem d355_3407 : decode cL_law 3407 = .ok (.lcmp, 1) := by decide +kernel
theorem d355_3408 : decode cL_law 3408 = .ok (.ifCond .eq 5, 3) := by decide +kernel
theorem d355_3411 : decode cL_law 3411 = .ok (.iconst 0, 1) := by decide +kernel
theorem d355_3412 : decode cL_law 3412 = .ok (.ireturn, 1) := by decide +kernel
theorem d355_3413 : decode cL_law 3413 = .ok (.goto 153, 3) := by decide +kernel
theorem d355_3416 : decode cL_law 3416 = .ok (.aload_n 1, 1) := by decide +kernel
theorem d355_3417 : decode cL_law 3417 = .ok (.aload_n 0, 1) := by decide +kernel
theorem d355_3418 : decode cL_law 3418 = .ok (.iload 5, 2) := by decide +kernel
theorem d355_3420 : decode cL_law 3420 = .ok (.iconst 1, 1) := by decide +kernel
theorem d355_3421 : decode cL_law 3421 = .ok (.iadd, 1) := by decide +kernel
theorem d355_3422 : decode cL_law 3422 = .ok (.iaload, 1) := by decide +kernel
theorem d355_3423 : decode cL_law 3423 = .ok (.invokevirtual 353, 3) := by decide +kernel
theorem d355_3426 : decode cL_law 3426 = .ok (.aload_n 2, 1) := by decide +kernel
theorem d355_3427 : decode cL_law 3427 = .ok (.aload_n 0, 1) := by decide +kernel
theorem d355_3428 : decode cL_law 3428 = .ok (.iload 5, 2) := by decide +kernel
theorem d355_3430 : decode cL_law 3430 = .ok (.iconst 1, 1) := by decide +kernel
theorem d355_3431 : decode cL_law 3431 = .ok (.iadd, 1) := by decide +kernel
theorem d355_3432 : decode cL_law 3432 = .ok (.iaload, 1) := by decide +kernel
theorem d355_3433 : decode cL_law 3433 = .ok (.invokevirtual 356, 3) := by decide +kernel
theorem d355_3436 : decode cL_law 3436 = .ok (.if_icmp .eq 130, 3) := by decide +kernel
theorem d355_3439 : decode cL_law 3439 = .ok (.iconst 0, 1) := by decide +kernel
theorem d355_3440 : decode cL_law 3440 = .ok (.ireturn, 1) := by decide +kernel
theorem d355_3441 : decode cL_law 3441 = .ok (.aload_n 1, 1) := by decide +kernel
theorem d355_3442 : decode cL_law 3442 = .ok (.invokevirtual 357, 3) := by decide +kernel
theorem d355_3445 : decode cL_law 3445 = .ok (.aload_n 2, 1) := by decide +kernel
theorem d355_3446 : decode cL_law 3446 = .ok (.invokevirtual 360, 3) := by decide +kernel
theorem d355_3449 : decode cL_law 3449 = .ok (.if_icmp .eq 117, 3) := by decide +kernel
theorem d355_3452 : decode cL_law 3452 = .ok (.iconst 0, 1) := by decide +kernel
theorem d355_3453 : decode cL_law 3453 = .ok (.ireturn, 1) := by decide +kernel
theorem d355_3454 : decode cL_law 3454 = .ok (.aload_n 1, 1) := by decide +kernel
theorem d355_3455 : decode cL_law 3455 = .ok (.aload_n 0, 1) := by decide +kernel
theorem d355_3456 : decode cL_law 3456 = .ok (.iload 5, 2) := by decide +kernel
theorem d355_3458 : decode cL_law 3458 = .ok (.iconst 1, 1) := by decide +kernel
theorem d355_3459 : decode cL_law 3459 = .ok (.iadd, 1) := by decide +kernel
theorem d355_3460 : decode cL_law 3460 = .ok (.iaload, 1) := by decide +kernel
theorem d355_3461 : decode cL_law 3461 = .ok (.aload_n 3, 1) := by decide +kernel
theorem d355_3462 : decode cL_law 3462 = .ok (.invokestatic 361, 3) := by decide +kernel
theorem d355_3465 : decode cL_law 3465 = .ok (.istore 6, 2) := by decide +kernel
theorem d355_3467 : decode cL_law 3467 = .ok (.aload_n 2, 1) := by decide +kernel
theorem d355_3468 : decode cL_law 3468 = .ok (.aload_n 0, 1) := by decide +kernel
theorem d355_3469 : decode cL_law 3469 = .ok (.iload 5, 2) := by decide +kernel
theorem d355_3471 : decode cL_law 3471 = .ok (.iconst 1, 1) := by decide +kernel
theorem d355_3472 : decode cL_law 3472 = .ok (.iadd, 1) := by decide +kernel
theorem d355_3473 : decode cL_law 3473 = .ok (.iaload, 1) := by decide +kernel
theorem d355_3474 : decode cL_law 3474 = .ok (.invokevirtual 363, 3) := by decide +kernel
theorem d355_3477 : decode cL_law 3477 = .ok (.istore 7, 2) := by decide +kernel
theorem d355_3479 : decode cL_law 3479 = .ok (.aload_n 2, 1) := by decide +kernel
theorem d355_3480 : decode cL_law 3480 = .ok (.invokevirtual 194, 3) := by decide +kernel
theorem d355_3483 : decode cL_law 3483 = .ok (.iload 6, 2) := by decide +kernel
theorem d355_3485 : decode cL_law 3485 = .ok (.if_icmp .eq 5, 3) := by decide +kernel
theorem d355_3488 : decode cL_law 3488 = .ok (.iconst 0, 1) := by decide +kernel
theorem d355_3489 : decode cL_law 3489 = .ok (.ireturn, 1) := by decide +kernel
theorem d355_3490 : decode cL_law 3490 = .ok (.iload 6, 2) := by decide +kernel
theorem d355_3492 : decode cL_law 3492 = .ok (.ifCond .ne 15, 3) := by decide +kernel
theorem d355_3495 : decode cL_law 3495 = .ok (.aload_n 3, 1) := by decide +kernel
theorem d355_3496 : decode cL_law 3496 = .ok (.iconst 0, 1) := by decide +kernel
theorem d355_3497 : decode cL_law 3497 = .ok (.laload, 1) := by decide +kernel
theorem d355_3498 : decode cL_law 3498 = .ok (.iload 7, 2) := by decide +kernel
theorem d355_3500 : decode cL_law 3500 = .ok (.i2l, 1) := by decide +kernel
theorem d355_3501 : decode cL_law 3501 = .ok (.lcmp, 1) := by decide +kernel
theorem d355_3502 : decode cL_law 3502 = .ok (.ifCond .eq 5, 3) := by decide +kernel
theorem d355_3505 : decode cL_law 3505 = .ok (.iconst 0, 1) := by decide +kernel
theorem d355_3506 : decode cL_law 3506 = .ok (.ireturn, 1) := by decide +kernel
theorem d355_3507 : decode cL_law 3507 = .ok (.goto 59, 3) := by decide +kernel
theorem d355_3510 : decode cL_law 3510 = .ok (.aload_n 1, 1) := by decide +kernel
theorem d355_3511 : decode cL_law 3511 = .ok (.aload_n 0, 1) := by decide +kernel
theorem d355_3512 : decode cL_law 3512 = .ok (.iload 5, 2) := by decide +kernel
theorem d355_3514 : decode cL_law 3514 = .ok (.iconst 1, 1) := by decide +kernel
theorem d355_3515 : decode cL_law 3515 = .ok (.iadd, 1) := by decide +kernel
theorem d355_3516 : decode cL_law 3516 = .ok (.iaload, 1) := by decide +kernel
theorem d355_3517 : decode cL_law 3517 = .ok (.aload_n 3, 1) := by decide +kernel
theorem d355_3518 : decode cL_law 3518 = .ok (.invokestatic 364, 3) := by decide +kernel
theorem d355_3521 : decode cL_law 3521 = .ok (.istore 6, 2) := by decide +kernel
theorem d355_3523 : decode cL_law 3523 = .ok (.aload_n 2, 1) := by decide +kernel
theorem d355_3524 : decode cL_law 3524 = .ok (.aload_n 0, 1) := by decide +kernel
theorem d355_3525 : decode cL_law 3525 = .ok (.iload 5, 2) := by decide +kernel
theorem d355_3527 : decode cL_law 3527 = .ok (.iconst 1, 1) := by decide +kernel
theorem d355_3528 : decode cL_law 3528 = .ok (.iadd, 1) := by decide +kernel
theorem d355_3529 : decode cL_law 3529 = .ok (.iaload, 1) := by decide +kernel
theorem d355_3530 : decode cL_law 3530 = .ok (.invokevirtual 366, 3) := by decide +kernel
theorem d355_3533 : decode cL_law 3533 = .ok (.istore 7, 2) := by decide +kernel
theorem d355_3535 : decode cL_law 3535 = .ok (.aload_n 2, 1) := by decide +kernel
theorem d355_3536 : decode cL_law 3536 = .ok (.invokevirtual 194, 3) := by decide +kernel
theorem d355_3539 : decode cL_law 3539 = .ok (.iload 6, 2) := by decide +kernel
theorem d355_3541 : decode cL_law 3541 = .ok (.if_icmp .eq 5, 3) := by decide +kernel
theorem d355_3544 : decode cL_law 3544 = .ok (.iconst 0, 1) := by decide +kernel
theorem d355_3545 : decode cL_law 3545 = .ok (.ireturn, 1) := by decide +kernel
theorem d355_3546 : decode cL_law 3546 = .ok (.iload 6, 2) := by decide +kernel
theorem d355_3548 : decode cL_law 3548 = .ok (.ifCond .ne 15, 3) := by decide +kernel
theorem d355_3551 : decode cL_law 3551 = .ok (.aload_n 3, 1) := by decide +kernel
theorem d355_3552 : decode cL_law 3552 = .ok (.iconst 0, 1) := by decide +kernel
theorem d355_3553 : decode cL_law 3553 = .ok (.laload, 1) := by decide +kernel
theorem d355_3554 : decode cL_law 3554 = .ok (.iload 7, 2) := by decide +kernel
theorem d355_3556 : decode cL_law 3556 = .ok (.i2l, 1) := by decide +kernel
theorem d355_3557 : decode cL_law 3557 = .ok (.lcmp, 1) := by decide +kernel
theorem d355_3558 : decode cL_law 3558 = .ok (.ifCond .eq 5, 3) := by decide +kernel
theorem d355_3561 : decode cL_law 3561 = .ok (.iconst 0, 1) := by decide +kernel
theorem d355_3562 : decode cL_law 3562 = .ok (.ireturn, 1) := by decide +kernel
theorem d355_3563 : decode cL_law 3563 = .ok (.goto 3, 3) := by decide +kernel
theorem d355_3566 : decode cL_law 3566 = .ok (.iinc 5 5, 3) := by decide +kernel
theorem d355_3569 : decode cL_law 3569 = .ok (.goto (-3541), 3) := by decide +kernel
theorem d355_3572 : decode cL_law 3572 = .ok (.iconst 1, 1) := by decide +kernel
theorem d355_3573 : decode cL_law 3573 = .ok (.ireturn, 1) := by decide +kernel
