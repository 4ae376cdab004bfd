theorem dL_law_300 : decode cL_law 300 = .ok (.aload_n 1, 1) := by decide +kernel
theorem dL_law_301 : decode cL_law 301 = .ok (.aload_n 0, 1) := by decide +kernel
theorem dL_law_302 : decode cL_law 302 = .ok (.iload 4, 2) := by decide +kernel
theorem dL_law_304 : decode cL_law 304 = .ok (.iconst 1, 1) := by decide +kernel
theorem dL_law_305 : decode cL_law 305 = .ok (.iadd, 1) := by decide +kernel
theorem dL_law_306 : decode cL_law 306 = .ok (.iaload, 1) := by decide +kernel
theorem dL_law_307 : decode cL_law 307 = .ok (.aload_n 0, 1) := by decide +kernel
theorem dL_law_308 : decode cL_law 308 = .ok (.iload 4, 2) := by decide +kernel
theorem dL_law_310 : decode cL_law 310 = .ok (.iconst 2, 1) := by decide +kernel
theorem dL_law_311 : decode cL_law 311 = .ok (.iadd, 1) := by decide +kernel
theorem dL_law_312 : decode cL_law 312 = .ok (.iaload, 1) := by decide +kernel
theorem dL_law_313 : decode cL_law 313 = .ok (.aload_n 0, 1) := by decide +kernel
theorem dL_law_314 : decode cL_law 314 = .ok (.iload 4, 2) := by decide +kernel
theorem dL_law_316 : decode cL_law 316 = .ok (.iconst 3, 1) := by decide +kernel
theorem dL_law_317 : decode cL_law 317 = .ok (.iadd, 1) := by decide +kernel
theorem dL_law_318 : decode cL_law 318 = .ok (.iaload, 1) := by decide +kernel
theorem dL_law_319 : decode cL_law 319 = .ok (.aload_n 0, 1) := by decide +kernel
theorem dL_law_320 : decode cL_law 320 = .ok (.iload 4, 2) := by decide +kernel
theorem dL_law_322 : decode cL_law 322 = .ok (.iconst 4, 1) := by decide +kernel
theorem dL_law_323 : decode cL_law 323 = .ok (.iadd, 1) := by decide +kernel
theorem dL_law_324 : decode cL_law 324 = .ok (.iaload, 1) := by decide +kernel
theorem dL_law_325 : decode cL_law 325 = .ok (.aload_n 0, 1) := by decide +kernel
theorem dL_law_326 : decode cL_law 326 = .ok (.iload 4, 2) := by decide +kernel
theorem dL_law_328 : decode cL_law 328 = .ok (.iconst 5, 1) := by decide +kernel
theorem dL_law_329 : decode cL_law 329 = .ok (.iadd, 1) := by decide +kernel
theorem dL_law_330 : decode cL_law 330 = .ok (.iaload, 1) := by decide +kernel
theorem dL_law_331 : decode cL_law 331 = .ok (.invokevirtual 163, 3) := by decide +kernel
theorem dL_law_334 : decode cL_law 334 = .ok (.aload_n 2, 1) := by decide +kernel
theorem dL_law_335 : decode cL_law 335 = .ok (.aload_n 0, 1) := by decide +kernel
theorem dL_law_336 : decode cL_law 336 = .ok (.iload 4, 2) := by decide +kernel
theorem dL_law_338 : decode cL_law 338 = .ok (.iconst 1, 1) := by decide +kernel
theorem dL_law_339 : decode cL_law 339 = .ok (.iadd, 1) := by decide +kernel
theorem dL_law_340 : decode cL_law 340 = .ok (.iaload, 1) := by decide +kernel
theorem dL_law_341 : decode cL_law 341 = .ok (.aload_n 0, 1) := by decide +kernel
theorem dL_law_342 : decode cL_law 342 = .ok (.iload 4, 2) := by decide +kernel
theorem dL_law_344 : decode cL_law 344 = .ok (.iconst 2, 1) := by decide +kernel
theorem dL_law_345 : decode cL_law 345 = .ok (.iadd, 1) := by decide +kernel
theorem dL_law_346 : decode cL_law 346 = .ok (.iaload, 1) := by decide +kernel
theorem dL_law_347 : decode cL_law 347 = .ok (.aload_n 0, 1) := by decide +kernel
theorem dL_law_348 : decode cL_law 348 = .ok (.iload 4, 2) := by decide +kernel
theorem dL_law_350 : decode cL_law 350 = .ok (.iconst 3, 1) := by decide +kernel
theorem dL_law_351 : decode cL_law 351 = .ok (.iadd, 1) := by decide +kernel
theorem dL_law_352 : decode cL_law 352 = .ok (.iaload, 1) := by decide +kernel
theorem dL_law_353 : decode cL_law 353 = .ok (.aload_n 0, 1) := by decide +kernel
theorem dL_law_354 : decode cL_law 354 = .ok (.iload 4, 2) := by decide +kernel
theorem dL_law_356 : decode cL_law 356 = .ok (.iconst 4, 1) := by decide +kernel
theorem dL_law_357 : decode cL_law 357 = .ok (.iadd, 1) := by decide +kernel
theorem dL_law_358 : decode cL_law 358 = .ok (.iaload, 1) := by decide +kernel
theorem dL_law_359 : decode cL_law 359 = .ok (.aload_n 0, 1) := by decide +kernel
theorem dL_law_360 : decode cL_law 360 = .ok (.iload 4, 2) := by decide +kernel
theorem dL_law_362 : decode cL_law 362 = .ok (.iconst 5, 1) := by decide +kernel
theorem dL_law_363 : decode cL_law 363 = .ok (.iadd, 1) := by decide +kernel
theorem dL_law_364 : decode cL_law 364 = .ok (.iaload, 1) := by decide +kernel
theorem dL_law_365 : decode cL_law 365 = .ok (.invokevirtual 167, 3) := by decide +kernel
theorem dL_law_368 : decode cL_law 368 = .ok (.if_icmp .eq 3055, 3) := by decide +kernel
theorem dL_law_373 : decode cL_law 373 = .ok (.aload_n 1, 1) := by decide +kernel
theorem dL_law_374 : decode cL_law 374 = .ok (.aload_n 0, 1) := by decide +kernel
theorem dL_law_375 : decode cL_law 375 = .ok (.iload 4, 2) := by decide +kernel
theorem dL_law_377 : decode cL_law 377 = .ok (.iconst 1, 1) := by decide +kernel
theorem dL_law_378 : decode cL_law 378 = .ok (.iadd, 1) := by decide +kernel
theorem dL_law_379 : decode cL_law 379 = .ok (.iaload, 1) := by decide +kernel
theorem dL_law_380 : decode cL_law 380 = .ok (.invokevirtual 168, 3) := by decide +kernel
theorem dL_law_383 : decode cL_law 383 = .ok (.aload_n 2, 1) := by decide +kernel
theorem dL_law_384 : decode cL_law 384 = .ok (.aload_n 0, 1) := by decide +kernel
theorem dL_law_385 : decode cL_law 385 = .ok (.iload 4, 2) := by decide +kernel
theorem dL_law_387 : decode cL_law 387 = .ok (.iconst 1, 1) := by decide +kernel
theorem dL_law_388 : decode cL_law 388 = .ok (.iadd, 1) := by decide +kernel
theorem dL_law_389 : decode cL_law 389 = .ok (.iaload, 1) := by decide +kernel
theorem dL_law_390 : decode cL_law 390 = .ok (.invokevirtual 171, 3) := by decide +kernel
theorem dL_law_393 : decode cL_law 393 = .ok (.if_icmp .eq 3030, 3) := by decide +kernel
theorem dL_law_398 : decode cL_law 398 = .ok (.aload_n 1, 1) := by decide +kernel
theorem dL_law_399 : decode cL_law 399 = .ok (.aload_n 3, 1) := by decide +kernel
theorem dL_law_400 : decode cL_law 400 = .ok (.invokestatic 172, 3) := by decide +kernel
theorem dL_law_403 : decode cL_law 403 = .ok (.istore 5, 2) := by decide +kernel
theorem dL_law_405 : decode cL_law 405 = .ok (.aload_n 2, 1) := by decide +kernel
theorem dL_law_406 : decode cL_law 406 = .ok (.invokevirtual 177, 3) := by decide +kernel
theorem dL_law_409 : decode cL_law 409 = .ok (.istore 6, 2) := by decide +kernel
theorem dL_law_411 : decode cL_law 411 = .ok (.aload_n 2, 1) := by decide +kernel
theorem dL_law_412 : decode cL_law 412 = .ok (.invokevirtual 178, 3) := by decide +kernel
theorem dL_law_415 : decode cL_law 415 = .ok (.iload 5, 2) := by decide +kernel
theorem dL_law_417 : decode cL_law 417 = .ok (.if_icmp .eq 5, 3) := by decide +kernel
theorem dL_law_422 : decode cL_law 422 = .ok (.iload 5, 2) := by decide +kernel
theorem dL_law_424 : decode cL_law 424 = .ok (.ifCond .ne 15, 3) := by decide +kernel
theorem dL_law_427 : decode cL_law 427 = .ok (.aload_n 3, 1) := by decide +kernel
theorem dL_law_428 : decode cL_law 428 = .ok (.iconst 0, 1) := by decide +kernel
theorem dL_law_429 : decode cL_law 429 = .ok (.laload, 1) := by decide +kernel
theorem dL_law_430 : decode cL_law 430 = .ok (.iload 6, 2) := by decide +kernel
theorem dL_law_432 : decode cL_law 432 = .ok (.i2l, 1) := by decide +kernel
theorem dL_law_433 : decode cL_law 433 = .ok (.lcmp, 1) := by decide +kernel
theorem dL_law_434 : decode cL_law 434 = .ok (.ifCond .eq 5, 3) := by decide +kernel
theorem dL_law_439 : decode cL_law 439 = .ok (.goto 2984, 3) := by decide +kernel
theorem dL_law_442 : decode cL_law 442 = .ok (.aload_n 1, 1) := by decide +kernel
theorem dL_law_443 : decode cL_law 443 = .ok (.invokevirtual 181, 3) := by decide +kernel
theorem dL_law_446 : decode cL_law 446 = .ok (.aload_n 2, 1) := by decide +kernel
theorem dL_law_447 : decode cL_law 447 = .ok (.invokevirtual 184, 3) := by decide +kernel
theorem dL_law_450 : decode cL_law 450 = .ok (.if_icmp .eq 2973, 3) := by decide +kernel
theorem dL_law_455 : decode cL_law 455 = .ok (.aload_n 1, 1) := by decide +kernel
theorem dL_law_456 : decode cL_law 456 = .ok (.invokevirtual 185, 3) := by decide +kernel
theorem dL_law_459 : decode cL_law 459 = .ok (.aload_n 2, 1) := by decide +kernel
theorem dL_law_460 : decode cL_law 460 = .ok (.invokevirtual 188, 3) := by decide +kernel
theorem dL_law_463 : decode cL_law 463 = .ok (.if_icmp .eq 2960, 3) := by decide +kernel
theorem dL_law_468 : decode cL_law 468 = .ok (.aload_n 1, 1) := by decide +kernel
theorem dL_law_469 : decode cL_law 469 = .ok (.invokevirtual 189, 3) := by decide +kernel
theorem dL_law_472 : decode cL_law 472 = .ok (.aload_n 2, 1) := by decide +kernel
theorem dL_law_473 : decode cL_law 473 = .ok (.invokevirtual 192, 3) := by decide +kernel
theorem dL_law_476 : decode cL_law 476 = .ok (.if_icmp .eq 2947, 3) := by decide +kernel
theorem dL_law_481 : decode cL_law 481 = .ok (.aload_n 1, 1) := by decide +kernel
theorem dL_law_482 : decode cL_law 482 = .ok (.invokevirtual 193, 3) := by decide +kernel
theorem dL_law_485 : decode cL_law 485 = .ok (.aload_n 2, 1) := by decide +kernel
theorem dL_law_486 : decode cL_law 486 = .ok (.invokevirtual 196, 3) := by decide +kernel
theorem dL_law_489 : decode cL_law 489 = .ok (.if_icmp .eq 2934, 3) := by decide +kernel
theorem dL_law_494 : decode cL_law 494 = .ok (.aload_n 1, 1) := by decide +kernel
theorem dL_law_495 : decode cL_law 495 = .ok (.invokevirtual 197, 3) := by decide +kernel
theorem dL_law_498 : decode cL_law 498 = .ok (.aload_n 2, 1) := by decide +kernel
theorem dL_law_499 : decode cL_law 499 = .ok (.invokevirtual 200, 3) := by decide +kernel
theorem dL_law_502 : decode cL_law 502 = .ok (.if_icmp .eq 2921, 3) := by decide +kernel
theorem dL_law_507 : decode cL_law 507 = .ok (.aload_n 1, 1) := by decide +kernel
theorem dL_law_508 : decode cL_law 508 = .ok (.invokevirtual 201, 3) := by decide +kernel
theorem dL_law_511 : decode cL_law 511 = .ok (.aload_n 2, 1) := by decide +kernel
theorem dL_law_512 : decode cL_law 512 = .ok (.invokevirtual 204, 3) := by decide +kernel
theorem dL_law_515 : decode cL_law 515 = .ok (.if_icmp .eq 2908, 3) := by decide +kernel
theorem dL_law_520 : decode cL_law 520 = .ok (.aload_n 1, 1) := by decide +kernel
theorem dL_law_521 : decode cL_law 521 = .ok (.aload_n 0, 1) := by decide +kernel
theorem dL_law_522 : decode cL_law 522 = .ok (.iload 4, 2) := by decide +kernel
theorem dL_law_524 : decode cL_law 524 = .ok (.iconst 1, 1) := by decide +kernel
theorem dL_law_525 : decode cL_law 525 = .ok (.iadd, 1) := by decide +kernel
theorem dL_law_526 : decode cL_law 526 = .ok (.iaload, 1) := by decide +kernel
theorem dL_law_527 : decode cL_law 527 = .ok (.aload_n 3, 1) := by decide +kernel
theorem dL_law_528 : decode cL_law 528 = .ok (.invokestatic 205, 3) := by decide +kernel
theorem dL_law_531 : decode cL_law 531 = .ok (.istore 5, 2) := by decide +kernel
theorem dL_law_533 : decode cL_law 533 = .ok (.aload_n 2, 1) := by decide +kernel
theorem dL_law_534 : decode cL_law 534 = .ok (.aload_n 0, 1) := by decide +kernel
theorem dL_law_535 : decode cL_law 535 = .ok (.iload 4, 2) := by decide +kernel
theorem dL_law_537 : decode cL_law 537 = .ok (.iconst 1, 1) := by decide +kernel
theorem dL_law_538 : decode cL_law 538 = .ok (.iadd, 1) := by decide +kernel
theorem dL_law_539 : decode cL_law 539 = .ok (.iaload, 1) := by decide +kernel
theorem dL_law_540 : decode cL_law 540 = .ok (.invokevirtual 208, 3) := by decide +kernel
theorem dL_law_543 : decode cL_law 543 = .ok (.istore 6, 2) := by decide +kernel
theorem dL_law_545 : decode cL_law 545 = .ok (.aload_n 2, 1) := by decide +kernel
theorem dL_law_546 : decode cL_law 546 = .ok (.invokevirtual 178, 3) := by decide +kernel
theorem dL_law_549 : decode cL_law 549 = .ok (.iload 5, 2) := by decide +kernel
theorem dL_law_551 : decode cL_law 551 = .ok (.if_icmp .eq 5, 3) := by decide +kernel
theorem dL_law_556 : decode cL_law 556 = .ok (.iload 5, 2) := by decide +kernel
theorem dL_law_558 : decode cL_law 558 = .ok (.ifCond .ne 15, 3) := by decide +kernel
theorem dL_law_561 : decode cL_law 561 = .ok (.aload_n 3, 1) := by decide +kernel
theorem dL_law_562 : decode cL_law 562 = .ok (.iconst 0, 1) := by decide +kernel
theorem dL_law_563 : decode cL_law 563 = .ok (.laload, 1) := by decide +kernel
theorem dL_law_564 : decode cL_law 564 = .ok (.iload 6, 2) := by decide +kernel
theorem dL_law_566 : decode cL_law 566 = .ok (.i2l, 1) := by decide +kernel
theorem dL_law_567 : decode cL_law 567 = .ok (.lcmp, 1) := by decide +kernel
theorem dL_law_568 : decode cL_law 568 = .ok (.ifCond .eq 5, 3) := by decide +kernel
theorem dL_law_573 : decode cL_law 573 = .ok (.goto 2850, 3) := by decide +kernel
theorem dL_law_576 : decode cL_law 576 = .ok (.aload_n 1, 1) := by decide +kernel
theorem dL_law_577 : decode cL_law 577 = .ok (.aload_n 0, 1) := by decide +kernel
theorem dL_law_578 : decode cL_law 578 = .ok (.iload 4, 2) := by decide +kernel
theorem dL_law_580 : decode cL_law 580 = .ok (.iconst 1, 1) := by decide +kernel
theorem dL_law_581 : decode cL_law 581 = .ok (.iadd, 1) := by decide +kernel
theorem dL_law_582 : decode cL_law 582 = .ok (.iaload, 1) := by decide +kernel
theorem dL_law_583 : decode cL_law 583 = .ok (.aload_n 0, 1) := by decide +kernel
theorem dL_law_584 : decode cL_law 584 = .ok (.iload 4, 2) := by decide +kernel
theorem dL_law_586 : decode cL_law 586 = .ok (.iconst 2, 1) := by decide +kernel
theorem dL_law_587 : decode cL_law 587 = .ok (.iadd, 1) := by decide +kernel
theorem dL_law_588 : decode cL_law 588 = .ok (.iaload, 1) := by decide +kernel
theorem dL_law_589 : decode cL_law 589 = .ok (.aload_n 3, 1) := by decide +kernel
theorem dL_law_590 : decode cL_law 590 = .ok (.invokestatic 209, 3) := by decide +kernel
theorem dL_law_593 : decode cL_law 593 = .ok (.istore 5, 2) := by decide +kernel
theorem dL_law_595 : decode cL_law 595 = .ok (.aload_n 2, 1) := by decide +kernel
theorem dL_law_596 : decode cL_law 596 = .ok (.aload_n 0, 1) := by decide +kernel
theorem dL_law_597 : decode cL_law 597 = .ok (.iload 4, 2) := by decide +kernel
theorem dL_law_599 : decode cL_law 599 = .ok (.iconst 1, 1) := by decide +kernel
theorem dL_law_600 : decode cL_law 600 = .ok (.iadd, 1) := by decide +kernel
theorem dL_law_601 : decode cL_law 601 = .ok (.iaload, 1) := by decide +kernel
theorem dL_law_602 : decode cL_law 602 = .ok (.aload_n 0, 1) := by decide +kernel
theorem dL_law_603 : decode cL_law 603 = .ok (.iload 4, 2) := by decide +kernel
theorem dL_law_605 : decode cL_law 605 = .ok (.iconst 2, 1) := by decide +kernel
theorem dL_law_606 : decode cL_law 606 = .ok (.iadd, 1) := by decide +kernel
theorem dL_law_607 : decode cL_law 607 = .ok (.iaload, 1) := by decide +kernel
theorem dL_law_608 : decode cL_law 608 = .ok (.invokevirtual 212, 3) := by decide +kernel
theorem dL_law_611 : decode cL_law 611 = .ok (.istore 6, 2) := by decide +kernel
theorem dL_law_613 : decode cL_law 613 = .ok (.aload_n 2, 1) := by decide +kernel
theorem dL_law_614 : decode cL_law 614 = .ok (.invokevirtual 178, 3) := by decide +kernel
theorem dL_law_617 : decode cL_law 617 = .ok (.iload 5, 2) := by decide +kernel
theorem dL_law_619 : decode cL_law 619 = .ok (.if_icmp .eq 5, 3) := by decide +kernel
theorem dL_law_624 : decode cL_law 624 = .ok (.iload 5, 2) := by decide +kernel
theorem dL_law_626 : decode cL_law 626 = .ok (.ifCond .ne 15, 3) := by decide +kernel
theorem dL_law_629 : decode cL_law 629 = .ok (.aload_n 3, 1) := by decide +kernel
theorem dL_law_630 : decode cL_law 630 = .ok (.iconst 0, 1) := by decide +kernel
theorem dL_law_631 : decode cL_law 631 = .ok (.laload, 1) := by decide +kernel
theorem dL_law_632 : decode cL_law 632 = .ok (.iload 6, 2) := by decide +kernel
theorem dL_law_634 : decode cL_law 634 = .ok (.i2l, 1) := by decide +kernel
theorem dL_law_635 : decode cL_law 635 = .ok (.lcmp, 1) := by decide +kernel
theorem dL_law_636 : decode cL_law 636 = .ok (.ifCond .eq 5, 3) := by decide +kernel
theorem dL_law_641 : decode cL_law 641 = .ok (.goto 2782, 3) := by decide +kernel
theorem dL_law_644 : decode cL_law 644 = .ok (.aload_n 1, 1) := by decide +kernel
theorem dL_law_645 : decode cL_law 645 = .ok (.aload_n 0, 1) := by decide +kernel
theorem dL_law_646 : decode cL_law 646 = .ok (.iload 4, 2) := by decide +kernel
theorem dL_law_648 : decode cL_law 648 = .ok (.iconst 1, 1) := by decide +kernel
theorem dL_law_649 : decode cL_law 649 = .ok (.iadd, 1) := by decide +kernel
theorem dL_law_650 : decode cL_law 650 = .ok (.iaload, 1) := by decide +kernel
theorem dL_law_651 : decode cL_law 651 = .ok (.aload_n 0, 1) := by decide +kernel
theorem dL_law_652 : decode cL_law 652 = .ok (.iload 4, 2) := by decide +kernel
theorem dL_law_654 : decode cL_law 654 = .ok (.iconst 2, 1) := by decide +kernel
theorem dL_law_655 : decode cL_law 655 = .ok (.iadd, 1) := by decide +kernel
theorem dL_law_656 : decode cL_law 656 = .ok (.iaload, 1) := by decide +kernel
theorem dL_law_657 : decode cL_law 657 = .ok (.aload_n 3, 1) := by decide +kernel
theorem dL_law_658 : decode cL_law 658 = .ok (.invokestatic 213, 3) := by decide +kernel
theorem dL_law_661 : decode cL_law 661 = .ok (.istore 5, 2) := by decide +kernel
theorem dL_law_663 : decode cL_law 663 = .ok (.aload_n 2, 1) := by decide +kernel
theorem dL_law_664 : decode cL_law 664 = .ok (.aload_n 0, 1) := by decide +kernel
theorem dL_law_665 : decode cL_law 665 = .ok (.iload 4, 2) := by decide +kernel
theorem dL_law_667 : decode cL_law 667 = .ok (.iconst 1, 1) := by decide +kernel
theorem dL_law_668 : decode cL_law 668 = .ok (.iadd, 1) := by decide +kernel
theorem dL_law_669 : decode cL_law 669 = .ok (.iaload, 1) := by decide +kernel
theorem dL_law_670 : decode cL_law 670 = .ok (.aload_n 0, 1) := by decide +kernel
theorem dL_law_671 : decode cL_law 671 = .ok (.iload 4, 2) := by decide +kernel
theorem dL_law_673 : decode cL_law 673 = .ok (.iconst 2, 1) := by decide +kernel
theorem dL_law_674 : decode cL_law 674 = .ok (.iadd, 1) := by decide +kernel
theorem dL_law_675 : decode cL_law 675 = .ok (.iaload, 1) := by decide +kernel
theorem dL_law_676 : decode cL_law 676 = .ok (.invokevirtual 215, 3) := by decide +kernel
theorem dL_law_679 : decode cL_law 679 = .ok (.istore 6, 2) := by decide +kernel
theorem dL_law_681 : decode cL_law 681 = .ok (.aload_n 2, 1) := by decide +kernel
theorem dL_law_682 : decode cL_law 682 = .ok (.invokevirtual 178, 3) := by decide +kernel
theorem dL_law_685 : decode cL_law 685 = .ok (.iload 5, 2) := by decide +kernel
theorem dL_law_687 : decode cL_law 687 = .ok (.if_icmp .eq 5, 3) := by decide +kernel
theorem dL_law_692 : decode cL_law 692 = .ok (.iload 5, 2) := by decide +kernel
theorem dL_law_694 : decode cL_law 694 = .ok (.ifCond .ne 15, 3) := by decide +kernel
theorem dL_law_697 : decode cL_law 697 = .ok (.aload_n 3, 1) := by decide +kernel
theorem dL_law_698 : decode cL_law 698 = .ok (.iconst 0, 1) := by decide +kernel
theorem dL_law_699 : decode cL_law 699 = .ok (.laload, 1) := by decide +kernel
theorem dL_law_700 : decode cL_law 700 = .ok (.iload 6, 2) := by decide +kernel
theorem dL_law_702 : decode cL_law 702 = .ok (.i2l, 1) := by decide +kernel
theorem dL_law_703 : decode cL_law 703 = .ok (.lcmp, 1) := by decide +kernel
theorem dL_law_704 : decode cL_law 704 = .ok (.ifCond .eq 5, 3) := by decide +kernel
theorem dL_law_709 : decode cL_law 709 = .ok (.goto 2714, 3) := by decide +kernel
theorem dL_law_712 : decode cL_law 712 = .ok (.aload_n 1, 1) := by decide +kernel
theorem dL_law_713 : decode cL_law 713 = .ok (.aload_n 0, 1) := by decide +kernel
theorem dL_law_714 : decode cL_law 714 = .ok (.iload 4, 2) := by decide +kernel
theorem dL_law_716 : decode cL_law 716 = .ok (.iconst 1, 1) := by decide +kernel
theorem dL_law_717 : decode cL_law 717 = .ok (.iadd, 1) := by decide +kernel
theorem dL_law_718 : decode cL_law 718 = .ok (.iaload, 1) := by decide +kernel
theorem dL_law_719 : decode cL_law 719 = .ok (.aload_n 3, 1) := by decide +kernel
theorem dL_law_720 : decode cL_law 720 = .ok (.invokestatic 216, 3) := by decide +kernel
theorem dL_law_723 : decode cL_law 723 = .ok (.istore 5, 2) := by decide +kernel
theorem dL_law_725 : decode cL_law 725 = .ok (.aload_n 2, 1) := by decide +kernel
theorem dL_law_726 : decode cL_law 726 = .ok (.aload_n 0, 1) := by decide +kernel
theorem dL_law_727 : decode cL_law 727 = .ok (.iload 4, 2) := by decide +kernel
theorem dL_law_729 : decode cL_law 729 = .ok (.iconst 1, 1) := by decide +kernel
theorem dL_law_730 : decode cL_law 730 = .ok (.iadd, 1) := by decide +kernel
theorem dL_law_731 : decode cL_law 731 = .ok (.iaload, 1) := by decide +kernel
theorem dL_law_732 : decode cL_law 732 = .ok (.invokevirtual 218, 3) := by decide +kernel
theorem dL_law_735 : decode cL_law 735 = .ok (.istore 6, 2) := by decide +kernel
theorem dL_law_737 : decode cL_law 737 = .ok (.aload_n 2, 1) := by decide +kernel
theorem dL_law_738 : decode cL_law 738 = .ok (.invokevirtual 178, 3) := by decide +kernel
theorem dL_law_741 : decode cL_law 741 = .ok (.iload 5, 2) := by decide +kernel
theorem dL_law_743 : decode cL_law 743 = .ok (.if_icmp .eq 5, 3) := by decide +kernel
theorem dL_law_748 : decode cL_law 748 = .ok (.iload 5, 2) := by decide +kernel
theorem dL_law_750 : decode cL_law 750 = .ok (.ifCond .ne 15, 3) := by decide +kernel
theorem dL_law_753 : decode cL_law 753 = .ok (.aload_n 3, 1) := by decide +kernel
theorem dL_law_754 : decode cL_law 754 = .ok (.iconst 0, 1) := by decide +kernel
theorem dL_law_755 : decode cL_law 755 = .ok (.laload, 1) := by decide +kernel
theorem dL_law_756 : decode cL_law 756 = .ok (.iload 6, 2) := by decide +kernel
theorem dL_law_758 : decode cL_law 758 = .ok (.i2l, 1) := by decide +kernel
theorem dL_law_759 : decode cL_law 759 = .ok (.lcmp, 1) := by decide +kernel
theorem dL_law_760 : decode cL_law 760 = .ok (.ifCond .eq 5, 3) := by decide +kernel
theorem dL_law_765 : decode cL_law 765 = .ok (.goto 2658, 3) := by decide +kernel
theorem dL_law_768 : decode cL_law 768 = .ok (.aload_n 1, 1) := by decide +kernel
theorem dL_law_769 : decode cL_law 769 = .ok (.aload_n 0, 1) := by decide +kernel
theorem dL_law_770 : decode cL_law 770 = .ok (.iload 4, 2) := by decide +kernel
theorem dL_law_772 : decode cL_law 772 = .ok (.iconst 1, 1) := by decide +kernel
theorem dL_law_773 : decode cL_law 773 = .ok (.iadd, 1) := by decide +kernel
theorem dL_law_774 : decode cL_law 774 = .ok (.iaload, 1) := by decide +kernel
theorem dL_law_775 : decode cL_law 775 = .ok (.aload_n 3, 1) := by decide +kernel
theorem dL_law_776 : decode cL_law 776 = .ok (.invokestatic 219, 3) := by decide +kernel
theorem dL_law_779 : decode cL_law 779 = .ok (.istore 5, 2) := by decide +kernel
theorem dL_law_781 : decode cL_law 781 = .ok (.aload_n 2, 1) := by decide +kernel
theorem dL_law_782 : decode cL_law 782 = .ok (.aload_n 0, 1) := by decide +kernel
theorem dL_law_783 : decode cL_law 783 = .ok (.iload 4, 2) := by decide +kernel
theorem dL_law_785 : decode cL_law 785 = .ok (.iconst 1, 1) := by decide +kernel
theorem dL_law_786 : decode cL_law 786 = .ok (.iadd, 1) := by decide +kernel
theorem dL_law_787 : decode cL_law 787 = .ok (.iaload, 1) := by decide +kernel
theorem dL_law_788 : decode cL_law 788 = .ok (.invokevirtual 221, 3) := by decide +kernel
theorem dL_law_791 : decode cL_law 791 = .ok (.istore 6, 2) := by decide +kernel
theorem dL_law_793 : decode cL_law 793 = .ok (.aload_n 2, 1) := by decide +kernel
theorem dL_law_794 : decode cL_law 794 = .ok (.invokevirtual 178, 3) := by decide +kernel
theorem dL_law_797 : decode cL_law 797 = .ok (.iload 5, 2) := by decide +kernel
theorem dL_law_799 : decode cL_law 799 = .ok (.if_icmp .eq 5, 3) := by decide +kernel
theorem dL_law_804 : decode cL_law 804 = .ok (.iload 5, 2) := by decide +kernel
theorem dL_law_806 : decode cL_law 806 = .ok (.ifCond .ne 15, 3) := by decide +kernel
theorem dL_law_809 : decode cL_law 809 = .ok (.aload_n 3, 1) := by decide +kernel
theorem dL_law_810 : decode cL_law 810 = .ok (.iconst 0, 1) := by decide +kernel
theorem dL_law_811 : decode cL_law 811 = .ok (.laload, 1) := by decide +kernel
theorem dL_law_812 : decode cL_law 812 = .ok (.iload 6, 2) := by decide +kernel
theorem dL_law_814 : decode cL_law 814 = .ok (.i2l, 1) := by decide +kernel
theorem dL_law_815 : decode cL_law 815 = .ok (.lcmp, 1) := by decide +kernel
theorem dL_law_816 : decode cL_law 816 = .ok (.ifCond .eq 5, 3) := by decide +kernel
theorem dL_law_821 : decode cL_law 821 = .ok (.goto 2602, 3) := by decide +kernel
theorem dL_law_824 : decode cL_law 824 = .ok (.aload_n 1, 1) := by decide +kernel
theorem dL_law_825 : decode cL_law 825 = .ok (.aload_n 0, 1) := by decide +kernel
theorem dL_law_826 : decode cL_law 826 = .ok (.iload 4, 2) := by decide +kernel
theorem dL_law_828 : decode cL_law 828 = .ok (.iconst 1, 1) := by decide +kernel
theorem dL_law_829 : decode cL_law 829 = .ok (.iadd, 1) := by decide +kernel
theorem dL_law_830 : decode cL_law 830 = .ok (.iaload, 1) := by decide +kernel
theorem dL_law_831 : decode cL_law 831 = .ok (.aload_n 3, 1) := by decide +kernel
theorem dL_law_832 : decode cL_law 832 = .ok (.invokestatic 222, 3) := by decide +kernel
theorem dL_law_835 : decode cL_law 835 = .ok (.istore 5, 2) := by decide +kernel
theorem dL_law_837 : decode cL_law 837 = .ok (.aload_n 2, 1) := by decide +kernel
theorem dL_law_838 : decode cL_law 838 = .ok (.aload_n 0, 1) := by decide +kernel
theorem dL_law_839 : decode cL_law 839 = .ok (.iload 4, 2) := by decide +kernel
theorem dL_law_841 : decode cL_law 841 = .ok (.iconst 1, 1) := by decide +kernel
theorem dL_law_842 : decode cL_law 842 = .ok (.iadd, 1) := by decide +kernel
theorem dL_law_843 : decode cL_law 843 = .ok (.iaload, 1) := by decide +kernel
theorem dL_law_844 : decode cL_law 844 = .ok (.invokevirtual 224, 3) := by decide +kernel
theorem dL_law_847 : decode cL_law 847 = .ok (.istore 6, 2) := by decide +kernel
theorem dL_law_849 : decode cL_law 849 = .ok (.aload_n 2, 1) := by decide +kernel
theorem dL_law_850 : decode cL_law 850 = .ok (.invokevirtual 178, 3) := by decide +kernel
theorem dL_law_853 : decode cL_law 853 = .ok (.iload 5, 2) := by decide +kernel
theorem dL_law_855 : decode cL_law 855 = .ok (.if_icmp .eq 5, 3) := by decide +kernel
theorem dL_law_860 : decode cL_law 860 = .ok (.iload 5, 2) := by decide +kernel
theorem dL_law_862 : decode cL_law 862 = .ok (.ifCond .ne 15, 3) := by decide +kernel
theorem dL_law_865 : decode cL_law 865 = .ok (.aload_n 3, 1) := by decide +kernel
theorem dL_law_866 : decode cL_law 866 = .ok (.iconst 0, 1) := by decide +kernel
theorem dL_law_867 : decode cL_law 867 = .ok (.laload, 1) := by decide +kernel
theorem dL_law_868 : decode cL_law 868 = .ok (.iload 6, 2) := by decide +kernel
theorem dL_law_870 : decode cL_law 870 = .ok (.i2l, 1) := by decide +kernel
theorem dL_law_871 : decode cL_law 871 = .ok (.lcmp, 1) := by decide +kernel
theorem dL_law_872 : decode cL_law 872 = .ok (.ifCond .eq 5, 3) := by decide +kernel
theorem dL_law_877 : decode cL_law 877 = .ok (.goto 2546, 3) := by decide +kernel
theorem dL_law_880 : decode cL_law 880 = .ok (.aload_n 1, 1) := by decide +kernel
theorem dL_law_881 : decode cL_law 881 = .ok (.aload_n 0, 1) := by decide +kernel
theorem dL_law_882 : decode cL_law 882 = .ok (.iload 4, 2) := by decide +kernel
theorem dL_law_884 : decode cL_law 884 = .ok (.iconst 1, 1) := by decide +kernel
theorem dL_law_885 : decode cL_law 885 = .ok (.iadd, 1) := by decide +kernel
theorem dL_law_886 : decode cL_law 886 = .ok (.iaload, 1) := by decide +kernel
theorem dL_law_887 : decode cL_law 887 = .ok (.aload_n 3, 1) := by decide +kernel
theorem dL_law_888 : decode cL_law 888 = .ok (.invokestatic 225, 3) := by decide +kernel
theorem dL_law_891 : decode cL_law 891 = .ok (.istore 5, 2) := by decide +kernel
theorem dL_law_893 : decode cL_law 893 = .ok (.aload_n 2, 1) := by decide +kernel
theorem dL_law_894 : decode cL_law 894 = .ok (.aload_n 0, 1) := by decide +kernel
theorem dL_law_895 : decode cL_law 895 = .ok (.iload 4, 2) := by decide +kernel
theorem dL_law_897 : decode cL_law 897 = .ok (.iconst 1, 1) := by decide +kernel
theorem dL_law_898 : decode cL_law 898 = .ok (.iadd, 1) := by decide +kernel
theorem dL_law_899 : decode cL_law 899 = .ok (.iaload, 1) := by decide +kernel
theorem dL_law_900 : decode cL_law 900 = .ok (.invokevirtual 227, 3) := by decide +kernel
theorem dL_law_903 : decode cL_law 903 = .ok (.istore 6, 2) := by decide +kernel
theorem dL_law_905 : decode cL_law 905 = .ok (.aload_n 2, 1) := by decide +kernel
theorem dL_law_906 : decode cL_law 906 = .ok (.invokevirtual 178, 3) := by decide +kernel
theorem dL_law_909 : decode cL_law 909 = .ok (.iload 5, 2) := by decide +kernel
theorem dL_law_911 : decode cL_law 911 = .ok (.if_icmp .eq 5, 3) := by decide +kernel
theorem dL_law_916 : decode cL_law 916 = .ok (.iload 5, 2) := by decide +kernel
theorem dL_law_918 : decode cL_law 918 = .ok (.ifCond .ne 15, 3) := by decide +kernel
theorem dL_law_921 : decode cL_law 921 = .ok (.aload_n 3, 1) := by decide +kernel
theorem dL_law_922 : decode cL_law 922 = .ok (.iconst 0, 1) := by decide +kernel
theorem dL_law_923 : decode cL_law 923 = .ok (.laload, 1) := by decide +kernel
theorem dL_law_924 : decode cL_law 924 = .ok (.iload 6, 2) := by decide +kernel
theorem dL_law_926 : decode cL_law 926 = .ok (.i2l, 1) := by decide +kernel
theorem dL_law_927 : decode cL_law 927 = .ok (.lcmp, 1) := by decide +kernel
theorem dL_law_928 : decode cL_law 928 = .ok (.ifCond .eq 5, 3) := by decide +kernel
theorem dL_law_933 : decode cL_law 933 = .ok (.goto 2490, 3) := by decide +kernel
set_option maxHeartbeats 4000000 in
set_option maxRecDepth 100000 in
theorem lc_0 {l : Launch} {g : GL} {p : Program} {e : Jvm.Env} {s : State} {m : MethodId} {below : List Frame} {meth : Method} {c : Code} {b Lx : Nat} {xs : Nat → Int32} {N : Nat} {Inv : SI → (Nat → Nat → Nat) → Prop} {σ : SI} {R : Nat → Nat → Nat} {L : Nat → Nat → Int64} {x4 : Int32} {cells slots : Nat} (C : Cx l g p s m meth c cL_law 7 RL) (hX : va_X b Lx xs s s.heap) (hbl : b < s.heap.size) (hbA : ¬ gA g b) (hI : Inv σ R) (hIS : InvOk Inv) (hAg : Ag_0 N Inv) (h1 : vp_in (x4 + 1) Lx) (h2 : vp_in (x4 + 2) Lx) (h3 : vp_in (x4 + 3) Lx) (h4 : vp_in (x4 + 4) Lx) (h5 : vp_in (x4 + 5) Lx) (hcs : cells + 4 ≤ 601024 ∧ slots + 24 ≤ 7293034) (kk : ∀ (σ' : SI) (R' : Nat → Nat → Nat) (L' : Nat → Nat → Int64) (H : Heap) (locs : List Loc) (ls : Array Slot), Inv σ' R' → S2 g s σ' R' L' H locs → lv_has ls 7 [(0, .ref b), (1, .ref (gb g + 1)), (2, .ref (gb g + 178)), (3, .ref (gb g + 194)), (4, .int x4)] → W p l e room_1 s m #[Value.ref b] below meth c H locs (cells + 4) (slots + 24) (lw_Z below #[Value.ref b] s) (F0 m 3423 ls [])) : ∀ (H : Heap) (locs : List Loc) (ls : Array Slot), S2 g s σ R L H locs → lv_has ls 7 [(0, .ref b), (1, .ref (gb g + 1)), (2, .ref (gb g + 178)), (3, .ref (gb g + 194)), (4, .int x4)] → W p l e room_1 s m #[Value.ref b] below meth c H locs (cells) (slots) (lw_Z below #[Value.ref b] s) (F0 m 300 ls []) := by
  intro H locs ls S hl
  obtain ⟨hc1, hc2⟩ := hcs
  have hx := C.1
  have hb := C.2.1
  have hSh := hIS σ R hI
  obtain ⟨b1, σ1, b2, σ2, hm, hmod, hI2, hres⟩ := hAg σ R (xs (x4 + 1).toNatClampNeg) (xs (x4 + 2).toNatClampNeg) (xs (x4 + 3).toNatClampNeg) (xs (x4 + 4).toNatClampNeg) (xs (x4 + 5).toNatClampNeg) hI
  refine lv_aload_n hx hb dL_law_300 rfl (lv_at hl 1 rfl) ?_
  refine lv_aload_n hx hb dL_law_301 rfl (lv_at hl 0 rfl) ?_
  refine lv_iload hx hb dL_law_302 (lv_at hl 4 rfl) ?_
  refine lv_iconst (v := (1 : Int32)) hx hb dL_law_304 (by decide) ?_
  refine lv_iadd hx hb dL_law_305 ?_
  refine va_sld hx hb hX hbl hbA S.2 h1 dL_law_306 ?_
  refine lv_aload_n hx hb dL_law_307 rfl (lv_at hl 0 rfl) ?_
  refine lv_iload hx hb dL_law_308 (lv_at hl 4 rfl) ?_
  refine lv_iconst (v := (2 : Int32)) hx hb dL_law_310 (by decide) ?_
  refine lv_iadd hx hb dL_law_311 ?_
  refine va_sld hx hb hX hbl hbA S.2 h2 dL_law_312 ?_
  refine lv_aload_n hx hb dL_law_313 rfl (lv_at hl 0 rfl) ?_
  refine lv_iload hx hb dL_law_314 (lv_at hl 4 rfl) ?_
  refine lv_iconst (v := (3 : Int32)) hx hb dL_law_316 (by decide) ?_
  refine lv_iadd hx hb dL_law_317 ?_
  refine va_sld hx hb hX hbl hbA S.2 h3 dL_law_318 ?_
  refine lv_aload_n hx hb dL_law_319 rfl (lv_at hl 0 rfl) ?_
  refine lv_iload hx hb dL_law_320 (lv_at hl 4 rfl) ?_
  refine lv_iconst (v := (4 : Int32)) hx hb dL_law_322 (by decide) ?_
  refine lv_iadd hx hb dL_law_323 ?_
  refine va_sld hx hb hX hbl hbA S.2 h4 dL_law_324 ?_
  refine lv_aload_n hx hb dL_law_325 rfl (lv_at hl 0 rfl) ?_
  refine lv_iload hx hb dL_law_326 (lv_at hl 4 rfl) ?_
  refine lv_iconst (v := (5 : Int32)) hx hb dL_law_328 (by decide) ?_
  refine lv_iadd hx hb dL_law_329 ?_
  refine va_sld hx hb hX hbl hbA S.2 h5 dL_law_330 ?_
  refine x_callVI C S KX11 ok_1 (ok_X11_append (L := L) hm hSh ok_1) ⟨cd_X11_append, ni_RX11, ml_RL_163, in_X11_append, sl_X11_append⟩ ⟨by decide, by decide⟩ rfl ⟨by decide, by decide⟩ hl.1 rfl (Nat.le_of_ble_eq_true rfl) ⟨by show _ ≤ 601024; omega, by show _ ≤ 7293034; omega⟩ dL_law_331 (fun H locs S => ?_)
  refine lv_aload_n hx hb dL_law_334 rfl (lv_at hl 2 rfl) ?_
  refine lv_aload_n hx hb dL_law_335 rfl (lv_at hl 0 rfl) ?_
  refine lv_iload hx hb dL_law_336 (lv_at hl 4 rfl) ?_
  refine lv_iconst (v := (1 : Int32)) hx hb dL_law_338 (by decide) ?_
  refine lv_iadd hx hb dL_law_339 ?_
  refine va_sld hx hb hX hbl hbA S.2 h1 dL_law_340 ?_
  refine lv_aload_n hx hb dL_law_341 rfl (lv_at hl 0 rfl) ?_
  refine lv_iload hx hb dL_law_342 (lv_at hl 4 rfl) ?_
  refine lv_iconst (v := (2 : Int32)) hx hb dL_law_344 (by decide) ?_
  refine lv_iadd hx hb dL_law_345 ?_
  refine va_sld hx hb hX hbl hbA S.2 h2 dL_law_346 ?_
  refine lv_aload_n hx hb dL_law_347 rfl (lv_at hl 0 rfl) ?_
  refine lv_iload hx hb dL_law_348 (lv_at hl 4 rfl) ?_
  refine lv_iconst (v := (3 : Int32)) hx hb dL_law_350 (by decide) ?_
  refine lv_iadd hx hb dL_law_351 ?_
  refine va_sld hx hb hX hbl hbA S.2 h3 dL_law_352 ?_
  refine lv_aload_n hx hb dL_law_353 rfl (lv_at hl 0 rfl) ?_
  refine lv_iload hx hb dL_law_354 (lv_at hl 4 rfl) ?_
  refine lv_iconst (v := (4 : Int32)) hx hb dL_law_356 (by decide) ?_
  refine lv_iadd hx hb dL_law_357 ?_
  refine va_sld hx hb hX hbl hbA S.2 h4 dL_law_358 ?_
  refine lv_aload_n hx hb dL_law_359 rfl (lv_at hl 0 rfl) ?_
  refine lv_iload hx hb dL_law_360 (lv_at hl 4 rfl) ?_
  refine lv_iconst (v := (5 : Int32)) hx hb dL_law_362 (by decide) ?_
  refine lv_iadd hx hb dL_law_363 ?_
  refine va_sld hx hb hX hbl hbA S.2 h5 dL_law_364 ?_
  refine x_callVI C S KX12 ok_178 (ok_X12_append (L := L) hmod hSh ok_178) ⟨cd_X12_append, ni_RX12, ml_RL_167, in_X12_append, sl_X12_append⟩ ⟨by decide, by decide⟩ rfl ⟨by decide, by decide⟩ hl.1 rfl (Nat.le_of_ble_eq_true rfl) ⟨by show _ ≤ 601024; omega, by show _ ≤ 7293034; omega⟩ dL_law_365 (fun H locs S => ?_)
  refine lv_icmp_eq (tgt := 3423) hx hb dL_law_368 (by decide) (fun c1 => ?_) (fun c1 => absurd hres c1)
  exact W.widen (k := cells + 4) (n := slots + 24) (by omega) (by omega) (kk σ2 R L H locs ls hI2 S hl)
set_option maxHeartbeats 4000000 in
set_option maxRecDepth 100000 in
theorem lc_1 {l : Launch} {g : GL} {p : Program} {e : Jvm.Env} {s : State} {m : MethodId} {below : List Frame} {meth : Method} {c : Code} {b Lx : Nat} {xs : Nat → Int32} {N : Nat} {Inv : SI → (Nat → Nat → Nat) → Prop} {σ : SI} {R : Nat → Nat → Nat} {L : Nat → Nat → Int64} {x4 : Int32} {cells slots : Nat} (C : Cx l g p s m meth c cL_law 7 RL) (hX : va_X b Lx xs s s.heap) (hbl : b < s.heap.size) (hbA : ¬ gA g b) (hI : Inv σ R) (hIS : InvOk Inv) (hAg : Ag_1 N Inv) (h1 : vp_in (x4 + 1) Lx) (hcs : cells + 4 ≤ 601024 ∧ slots + 24 ≤ 7293034) (kk : ∀ (σ' : SI) (R' : Nat → Nat → Nat) (L' : Nat → Nat → Int64) (H : Heap) (locs : List Loc) (ls : Array Slot), Inv σ' R' → S2 g s σ' R' L' H locs → lv_has ls 7 [(0, .ref b), (1, .ref (gb g + 1)), (2, .ref (gb g + 178)), (3, .ref (gb g + 194)), (4, .int x4)] → W p l e room_1 s m #[Value.ref b] below meth c H locs (cells + 4) (slots + 24) (lw_Z below #[Value.ref b] s) (F0 m 3423 ls [])) : ∀ (H : Heap) (locs : List Loc) (ls : Array Slot), S2 g s σ R L H locs → lv_has ls 7 [(0, .ref b), (1, .ref (gb g + 1)), (2, .ref (gb g + 178)), (3, .ref (gb g + 194)), (4, .int x4)] → W p l e room_1 s m #[Value.ref b] below meth c H locs (cells) (slots) (lw_Z below #[Value.ref b] s) (F0 m 373 ls []) := by
  intro H locs ls S hl
  obtain ⟨hc1, hc2⟩ := hcs
  have hx := C.1
  have hb := C.2.1
  have hSh := hIS σ R hI
  obtain ⟨b1, σ1, b2, σ2, hm, hmod, hI2, hres⟩ := hAg σ R (xs (x4 + 1).toNatClampNeg) hI
  refine lv_aload_n hx hb dL_law_373 rfl (lv_at hl 1 rfl) ?_
  refine lv_aload_n hx hb dL_law_374 rfl (lv_at hl 0 rfl) ?_
  refine lv_iload hx hb dL_law_375 (lv_at hl 4 rfl) ?_
  refine lv_iconst (v := (1 : Int32)) hx hb dL_law_377 (by decide) ?_
  refine lv_iadd hx hb dL_law_378 ?_
  refine va_sld hx hb hX hbl hbA S.2 h1 dL_law_379 ?_
  refine x_callVI C S KX11 ok_1 (ok_X11_truncate (L := L) hm hSh ok_1) ⟨cd_X11_truncate, ni_RX11, ml_RL_168, in_X11_truncate, sl_X11_truncate⟩ ⟨by decide, by decide⟩ rfl ⟨by decide, by decide⟩ hl.1 rfl (Nat.le_of_ble_eq_true rfl) ⟨by show _ ≤ 601024; omega, by show _ ≤ 7293034; omega⟩ dL_law_380 (fun H locs S => ?_)
  refine lv_aload_n hx hb dL_law_383 rfl (lv_at hl 2 rfl) ?_
  refine lv_aload_n hx hb dL_law_384 rfl (lv_at hl 0 rfl) ?_
  refine lv_iload hx hb dL_law_385 (lv_at hl 4 rfl) ?_
  refine lv_iconst (v := (1 : Int32)) hx hb dL_law_387 (by decide) ?_
  refine lv_iadd hx hb dL_law_388 ?_
  refine va_sld hx hb hX hbl hbA S.2 h1 dL_law_389 ?_
  refine x_callVI C S KX12 ok_178 (ok_X12_truncate (L := L) hmod hSh ok_178) ⟨cd_X12_truncate, ni_RX12, ml_RL_171, in_X12_truncate, sl_X12_truncate⟩ ⟨by decide, by decide⟩ rfl ⟨by decide, by decide⟩ hl.1 rfl (Nat.le_of_ble_eq_true rfl) ⟨by show _ ≤ 601024; omega, by show _ ≤ 7293034; omega⟩ dL_law_390 (fun H locs S => ?_)
  refine lv_icmp_eq (tgt := 3423) hx hb dL_law_393 (by decide) (fun c1 => ?_) (fun c1 => absurd hres c1)
  exact W.widen (k := cells + 4) (n := slots + 24) (by omega) (by omega) (kk σ2 R L H locs ls hI2 S hl)
set_option maxHeartbeats 4000000 in
set_option maxRecDepth 100000 in
theorem lc_2 {l : Launch} {g : GL} {p : Program} {e : Jvm.Env} {s : State} {m : MethodId} {below : List Frame} {meth : Method} {c : Code} {b Lx : Nat} {xs : Nat → Int32} {N : Nat} {Inv : SI → (Nat → Nat → Nat) → Prop} {σ : SI} {R : Nat → Nat → Nat} {L : Nat → Nat → Int64} {x4 : Int32} {cells slots : Nat} (C : Cx l g p s m meth c cL_law 7 RL) (hX : va_X b Lx xs s s.heap) (hbl : b < s.heap.size) (hbA : ¬ gA g b) (hI : Inv σ R) (hIS : InvOk Inv) (hAg : Ag_2 N Inv) (hcs : cells + 4 ≤ 601024 ∧ slots + 24 ≤ 7293034) (kk : ∀ (σ' : SI) (R' : Nat → Nat → Nat) (L' : Nat → Nat → Int64) (H : Heap) (locs : List Loc) (ls : Array Slot), Inv σ' R' → S2 g s σ' R' L' H locs → lv_has ls 7 [(0, .ref b), (1, .ref (gb g + 1)), (2, .ref (gb g + 178)), (3, .ref (gb g + 194)), (4, .int x4)] → W p l e room_1 s m #[Value.ref b] below meth c H locs (cells + 4) (slots + 24) (lw_Z below #[Value.ref b] s) (F0 m 3423 ls [])) : ∀ (H : Heap) (locs : List Loc) (ls : Array Slot), S2 g s σ R L H locs → lv_has ls 7 [(0, .ref b), (1, .ref (gb g + 1)), (2, .ref (gb g + 178)), (3, .ref (gb g + 194)), (4, .int x4)] → W p l e room_1 s m #[Value.ref b] below meth c H locs (cells) (slots) (lw_Z below #[Value.ref b] s) (F0 m 398 ls []) := by
  intro H locs ls S hl
  obtain ⟨hc1, hc2⟩ := hcs
  have hx := C.1
  have hb := C.2.1
  have hSh := hIS σ R hI
  obtain ⟨res, σ1, R1, b2, σ2, hm, hmod, hI2, hSh1, hret, hthr⟩ := hAg σ R hI
  cases res with
  | inl v =>
    obtain ⟨ht, rfl⟩ := hret v rfl
    refine lv_aload_n hx hb dL_law_398 rfl (lv_at hl 1 rfl) ?_
    refine lv_aload_n hx hb dL_law_399 rfl (lv_at hl 3 rfl) ?_
    refine v_callW C S (h_load_ret (L := L) hm hSh ok_1 ok_194) ⟨cd_L_load, ni_RL, ml_RL_172, st_L_load⟩ ⟨by decide, by decide⟩ rfl ⟨by decide, by decide⟩ hl.1 rfl (Nat.le_of_ble_eq_true rfl) ⟨by show _ ≤ 601024; omega, by show _ ≤ 7293034; omega⟩ dL_law_400 (fun w σ' H locs hp S => ?_)
    obtain ⟨rfl, rfl⟩ := hp
    have S : S2 g s σ1 R1 (fun a j => if a = 194 ∧ j = 0 then v.toInt64 else L a j) H locs := S
    obtain ⟨L1, hL1, hLv⟩ : ∃ L1 : Nat → Nat → Int64, (fun a j => if a = 194 ∧ j = 0 then v.toInt64 else L a j) = L1 ∧ L1 194 0 = v.toInt64 := ⟨_, rfl, if_pos ⟨rfl, rfl⟩⟩
    rw [hL1] at S
    refine lv_istore (lv' := [(5, .int 0), (0, .ref b), (1, .ref (gb g + 1)), (2, .ref (gb g + 178)), (3, .ref (gb g + 194)), (4, .int x4)]) hx hb dL_law_403 hl (by decide) rfl (fun ls hl => ?_)
    refine lv_aload_n hx hb dL_law_405 rfl (lv_at hl 3 rfl) ?_
    refine x_callVI C S KX12 ok_178 (ok_X12_load (L := L1) hmod hSh1 ok_178) ⟨cd_X12_load, ni_RX12, ml_RL_177, in_X12_load, sl_X12_load⟩ ⟨by decide, by decide⟩ rfl ⟨by decide, by decide⟩ hl.1 rfl (Nat.le_of_ble_eq_true rfl) ⟨by show _ ≤ 601024; omega, by show _ ≤ 7293034; omega⟩ dL_law_406 (fun H locs S => ?_)
    refine lv_istore (lv' := [(6, .int v), (5, .int 0), (0, .ref b), (1, .ref (gb g + 1)), (2, .ref (gb g + 178)), (3, .ref (gb g + 194)), (4, .int x4)]) hx hb dL_law_409 hl (by decide) rfl (fun ls hl => ?_)
    refine lv_aload_n hx hb dL_law_411 rfl (lv_at hl 4 rfl) ?_
    refine x_callVI C S KX12 ok_178 (ok_X12_thrown (L := L1) (thr_eq N R1 σ2 178) hSh1 ok_178) ⟨cd_X12_thrown, ni_RX12, ml_RL_178, in_X12_thrown, sl_X12_thrown⟩ ⟨by decide, by decide⟩ rfl ⟨by decide, by decide⟩ hl.1 rfl (Nat.le_of_ble_eq_true rfl) ⟨by show _ ≤ 601024; omega, by show _ ≤ 7293034; omega⟩ dL_law_412 (fun H locs S => ?_)
    refine lv_iload hx hb dL_law_415 (lv_at hl 1 rfl) ?_
    refine lv_icmp_eq (tgt := 422) hx hb dL_law_417 (by decide) (fun c1 => ?_) (fun c1 => absurd ht c1)
    refine lv_iload hx hb dL_law_422 (lv_at hl 1 rfl) ?_
    refine lv_if_ne (tgt := 439) hx hb dL_law_424 (by decide) (fun c2 => absurd rfl c2) (fun c2 => ?_)
    refine lv_aload_n hx hb dL_law_427 rfl (lv_at hl 5 rfl) ?_
    refine lv_iconst (v := (0 : Int32)) hx hb dL_law_428 (by decide) ?_
    refine x_lald C S ok_194 dL_law_429 ?_
    refine lv_iload hx hb dL_law_430 (lv_at hl 0 rfl) ?_
    refine lv_i2l hx hb dL_law_432 rfl ?_
    refine W.lcmp hx hb dL_law_433 ?_
    refine lv_if_eq (tgt := 439) hx hb dL_law_434 (by decide) (fun c4 => ?_) (fun c4 => absurd (by show lg_cmp (L1 194 0) _ = 0; rw [hLv]; exact lgc_self _) c4)
    refine lv_goto (tgt := 3423) hx hb dL_law_439 (by decide) ?_
    exact W.widen (k := cells + 4) (n := slots + 24) (by omega) (by omega) (kk σ2 R1 L1 H locs ls hI2 S (lv_sub hl [2, 3, 4, 5, 6] rfl))
  | inr q =>
    obtain ⟨rfl, ht⟩ := hthr q rfl
    refine lv_aload_n hx hb dL_law_398 rfl (lv_at hl 1 rfl) ?_
    refine lv_aload_n hx hb dL_law_399 rfl (lv_at hl 3 rfl) ?_
    refine v_callW C S (h_load_x1 (L := L) hm hSh ok_1 ok_194) ⟨cd_L_load, ni_RL, ml_RL_172, st_L_load⟩ ⟨by decide, by decide⟩ rfl ⟨by decide, by decide⟩ hl.1 rfl (Nat.le_of_ble_eq_true rfl) ⟨by show _ ≤ 601024; omega, by show _ ≤ 7293034; omega⟩ dL_law_400 (fun w σ' H locs hp S => ?_)
    obtain ⟨rfl, rfl⟩ := hp
    have S : S2 g s σ1 R1 L H locs := S
    refine lv_istore (lv' := [(5, .int 1), (0, .ref b), (1, .ref (gb g + 1)), (2, .ref (gb g + 178)), (3, .ref (gb g + 194)), (4, .int x4)]) hx hb dL_law_403 hl (by decide) rfl (fun ls hl => ?_)
    refine lv_aload_n hx hb dL_law_405 rfl (lv_at hl 3 rfl) ?_
    refine x_callVI C S KX12 ok_178 (ok_X12_load (L := L) hmod hSh1 ok_178) ⟨cd_X12_load, ni_RX12, ml_RL_177, in_X12_load, sl_X12_load⟩ ⟨by decide, by decide⟩ rfl ⟨by decide, by decide⟩ hl.1 rfl (Nat.le_of_ble_eq_true rfl) ⟨by show _ ≤ 601024; omega, by show _ ≤ 7293034; omega⟩ dL_law_406 (fun H locs S => ?_)
    refine lv_istore (lv' := [(6, .int b2), (5, .int 1), (0, .ref b), (1, .ref (gb g + 1)), (2, .ref (gb g + 178)), (3, .ref (gb g + 194)), (4, .int x4)]) hx hb dL_law_409 hl (by decide) rfl (fun ls hl => ?_)
    refine lv_aload_n hx hb dL_law_411 rfl (lv_at hl 4 rfl) ?_
    refine x_callVI C S KX12 ok_178 (ok_X12_thrown (L := L) (thr_eq N R1 σ2 178) hSh1 ok_178) ⟨cd_X12_thrown, ni_RX12, ml_RL_178, in_X12_thrown, sl_X12_thrown⟩ ⟨by decide, by decide⟩ rfl ⟨by decide, by decide⟩ hl.1 rfl (Nat.le_of_ble_eq_true rfl) ⟨by show _ ≤ 601024; omega, by show _ ≤ 7293034; omega⟩ dL_law_412 (fun H locs S => ?_)
    refine lv_iload hx hb dL_law_415 (lv_at hl 1 rfl) ?_
    refine lv_icmp_eq (tgt := 422) hx hb dL_law_417 (by decide) (fun c1 => ?_) (fun c1 => absurd ht c1)
    refine lv_iload hx hb dL_law_422 (lv_at hl 1 rfl) ?_
    refine lv_if_ne (tgt := 439) hx hb dL_law_424 (by decide) (fun c2 => ?_) (fun c2 => absurd c2 (by decide))
    refine lv_goto (tgt := 3423) hx hb dL_law_439 (by decide) ?_
    exact W.widen (k := cells + 4) (n := slots + 24) (by omega) (by omega) (kk σ2 R1 L H locs ls hI2 S (lv_sub hl [2, 3, 4, 5, 6] rfl))
set_option maxHeartbeats 4000000 in
set_option maxRecDepth 100000 in
theorem lc_3 {l : Launch} {g : GL} {p : Program} {e : Jvm.Env} {s : State} {m : MethodId} {below : List Frame} {meth : Method} {c : Code} {b Lx : Nat} {xs : Nat → Int32} {N : Nat} {Inv : SI → (Nat → Nat → Nat) → Prop} {σ : SI} {R : Nat → Nat → Nat} {L : Nat → Nat → Int64} {x4 : Int32} {cells slots : Nat} (C : Cx l g p s m meth c cL_law 7 RL) (hX : va_X b Lx xs s s.heap) (hbl : b < s.heap.size) (hbA : ¬ gA g b) (hI : Inv σ R) (hIS : InvOk Inv) (hAg : Ag_3 N Inv) (hcs : cells + 4 ≤ 601024 ∧ slots + 24 ≤ 7293034) (kk : ∀ (σ' : SI) (R' : Nat → Nat → Nat) (L' : Nat → Nat → Int64) (H : Heap) (locs : List Loc) (ls : Array Slot), Inv σ' R' → S2 g s σ' R' L' H locs → lv_has ls 7 [(0, .ref b), (1, .ref (gb g + 1)), (2, .ref (gb g + 178)), (3, .ref (gb g + 194)), (4, .int x4)] → W p l e room_1 s m #[Value.ref b] below meth c H locs (cells + 4) (slots + 24) (lw_Z below #[Value.ref b] s) (F0 m 3423 ls [])) : ∀ (H : Heap) (locs : List Loc) (ls : Array Slot), S2 g s σ R L H locs → lv_has ls 7 [(0, .ref b), (1, .ref (gb g + 1)), (2, .ref (gb g + 178)), (3, .ref (gb g + 194)), (4, .int x4)] → W p l e room_1 s m #[Value.ref b] below meth c H locs (cells) (slots) (lw_Z below #[Value.ref b] s) (F0 m 442 ls []) := by
  intro H locs ls S hl
  obtain ⟨hc1, hc2⟩ := hcs
  have hx := C.1
  have hb := C.2.1
  have hSh := hIS σ R hI
  obtain ⟨b1, σ1, b2, σ2, hm, hmod, hI2, hres⟩ := hAg σ R hI
  refine lv_aload_n hx hb dL_law_442 rfl (lv_at hl 1 rfl) ?_
  refine x_callVI C S KX11 ok_1 (ok_X11_errorOffset (L := L) hm hSh ok_1) ⟨cd_X11_errorOffset, ni_RX11, ml_RL_181, in_X11_errorOffset, sl_X11_errorOffset⟩ ⟨by decide, by decide⟩ rfl ⟨by decide, by decide⟩ hl.1 rfl (Nat.le_of_ble_eq_true rfl) ⟨by show _ ≤ 601024; omega, by show _ ≤ 7293034; omega⟩ dL_law_443 (fun H locs S => ?_)
  refine lv_aload_n hx hb dL_law_446 rfl (lv_at hl 2 rfl) ?_
  refine x_callVI C S KX12 ok_178 (ok_X12_errorOffset (L := L) hmod hSh ok_178) ⟨cd_X12_errorOffset, ni_RX12, ml_RL_184, in_X12_errorOffset, sl_X12_errorOffset⟩ ⟨by decide, by decide⟩ rfl ⟨by decide, by decide⟩ hl.1 rfl (Nat.le_of_ble_eq_true rfl) ⟨by show _ ≤ 601024; omega, by show _ ≤ 7293034; omega⟩ dL_law_447 (fun H locs S => ?_)
  refine lv_icmp_eq (tgt := 3423) hx hb dL_law_450 (by decide) (fun c1 => ?_) (fun c1 => absurd hres c1)
  exact W.widen (k := cells + 4) (n := slots + 24) (by omega) (by omega) (kk σ2 R L H locs ls hI2 S hl)
set_option maxHeartbeats 4000000 in
set_option maxRecDepth 100000 in
theorem lc_4 {l : Launch} {g : GL} {p : Program} {e : Jvm.Env} {s : State} {m : MethodId} {below : List Frame} {meth : Method} {c : Code} {b Lx : Nat} {xs : Nat → Int32} {N : Nat} {Inv : SI → (Nat → Nat → Nat) → Prop} {σ : SI} {R : Nat → Nat → Nat} {L : Nat → Nat → Int64} {x4 : Int32} {cells slots : Nat} (C : Cx l g p s m meth c cL_law 7 RL) (hX : va_X b Lx xs s s.heap) (hbl : b < s.heap.size) (hbA : ¬ gA g b) (hI : Inv σ R) (hIS : InvOk Inv) (hAg : Ag_4 N Inv) (hcs : cells + 4 ≤ 601024 ∧ slots + 24 ≤ 7293034) (kk : ∀ (σ' : SI) (R' : Nat → Nat → Nat) (L' : Nat → Nat → Int64) (H : Heap) (locs : List Loc) (ls : Array Slot), Inv σ' R' → S2 g s σ' R' L' H locs → lv_has ls 7 [(0, .ref b), (1, .ref (gb g + 1)), (2, .ref (gb g + 178)), (3, .ref (gb g + 194)), (4, .int x4)] → W p l e room_1 s m #[Value.ref b] below meth c H locs (cells + 4) (slots + 24) (lw_Z below #[Value.ref b] s) (F0 m 3423 ls [])) : ∀ (H : Heap) (locs : List Loc) (ls : Array Slot), S2 g s σ R L H locs → lv_has ls 7 [(0, .ref b), (1, .ref (gb g + 1)), (2, .ref (gb g + 178)), (3, .ref (gb g + 194)), (4, .int x4)] → W p l e room_1 s m #[Value.ref b] below meth c H locs (cells) (slots) (lw_Z below #[Value.ref b] s) (F0 m 455 ls []) := by
  intro H locs ls S hl
  obtain ⟨hc1, hc2⟩ := hcs
  have hx := C.1
  have hb := C.2.1
  have hSh := hIS σ R hI
  obtain ⟨b1, σ1, b2, σ2, hm, hmod, hI2, hres⟩ := hAg σ R hI
  refine lv_aload_n hx hb dL_law_455 rfl (lv_at hl 1 rfl) ?_
  refine x_callVI C S KX11 ok_1 (ok_X11_errorKind (L := L) hm hSh ok_1) ⟨cd_X11_errorKind, ni_RX11, ml_RL_185, in_X11_errorKind, sl_X11_errorKind⟩ ⟨by decide, by decide⟩ rfl ⟨by decide, by decide⟩ hl.1 rfl (Nat.le_of_ble_eq_true rfl) ⟨by show _ ≤ 601024; omega, by show _ ≤ 7293034; omega⟩ dL_law_456 (fun H locs S => ?_)
  refine lv_aload_n hx hb dL_law_459 rfl (lv_at hl 2 rfl) ?_
  refine x_callVI C S KX12 ok_178 (ok_X12_errorKind (L := L) hmod hSh ok_178) ⟨cd_X12_errorKind, ni_RX12, ml_RL_188, in_X12_errorKind, sl_X12_errorKind⟩ ⟨by decide, by decide⟩ rfl ⟨by decide, by decide⟩ hl.1 rfl (Nat.le_of_ble_eq_true rfl) ⟨by show _ ≤ 601024; omega, by show _ ≤ 7293034; omega⟩ dL_law_460 (fun H locs S => ?_)
  refine lv_icmp_eq (tgt := 3423) hx hb dL_law_463 (by decide) (fun c1 => ?_) (fun c1 => absurd hres c1)
  exact W.widen (k := cells + 4) (n := slots + 24) (by omega) (by omega) (kk σ2 R L H locs ls hI2 S hl)
set_option maxHeartbeats 4000000 in
set_option maxRecDepth 100000 in
theorem lc_5 {l : Launch} {g : GL} {p : Program} {e : Jvm.Env} {s : State} {m : MethodId} {below : List Frame} {meth : Method} {c : Code} {b Lx : Nat} {xs : Nat → Int32} {N : Nat} {Inv : SI → (Nat → Nat → Nat) → Prop} {σ : SI} {R : Nat → Nat → Nat} {L : Nat → Nat → Int64} {x4 : Int32} {cells slots : Nat} (C : Cx l g p s m meth c cL_law 7 RL) (hX : va_X b Lx xs s s.heap) (hbl : b < s.heap.size) (hbA : ¬ gA g b) (hI : Inv σ R) (hIS : InvOk Inv) (hAg : Ag_5 N Inv) (hcs : cells + 4 ≤ 601024 ∧ slots + 24 ≤ 7293034) (kk : ∀ (σ' : SI) (R' : Nat → Nat → Nat) (L' : Nat → Nat → Int64) (H : Heap) (locs : List Loc) (ls : Array Slot), Inv σ' R' → S2 g s σ' R' L' H locs → lv_has ls 7 [(0, .ref b), (1, .ref (gb g + 1)), (2, .ref (gb g + 178)), (3, .ref (gb g + 194)), (4, .int x4)] → W p l e room_1 s m #[Value.ref b] below meth c H locs (cells + 4) (slots + 24) (lw_Z below #[Value.ref b] s) (F0 m 3423 ls [])) : ∀ (H : Heap) (locs : List Loc) (ls : Array Slot), S2 g s σ R L H locs → lv_has ls 7 [(0, .ref b), (1, .ref (gb g + 1)), (2, .ref (gb g + 178)), (3, .ref (gb g + 194)), (4, .int x4)] → W p l e room_1 s m #[Value.ref b] below meth c H locs (cells) (slots) (lw_Z below #[Value.ref b] s) (F0 m 468 ls []) := by
  intro H locs ls S hl
  obtain ⟨hc1, hc2⟩ := hcs
  have hx := C.1
  have hb := C.2.1
  have hSh := hIS σ R hI
  obtain ⟨b1, σ1, b2, σ2, hm, hmod, hI2, hres⟩ := hAg σ R hI
  refine lv_aload_n hx hb dL_law_468 rfl (lv_at hl 1 rfl) ?_
  refine x_callVI C S KX11 ok_1 (ok_X11_blastCount (L := L) hm hSh ok_1) ⟨cd_X11_blastCount, ni_RX11, ml_RL_189, in_X11_blastCount, sl_X11_blastCount⟩ ⟨by decide, by decide⟩ rfl ⟨by decide, by decide⟩ hl.1 rfl (Nat.le_of_ble_eq_true rfl) ⟨by show _ ≤ 601024; omega, by show _ ≤ 7293034; omega⟩ dL_law_469 (fun H locs S => ?_)
  refine lv_aload_n hx hb dL_law_472 rfl (lv_at hl 2 rfl) ?_
  refine x_callVI C S KX12 ok_178 (ok_X12_blastCount (L := L) hmod hSh ok_178) ⟨cd_X12_blastCount, ni_RX12, ml_RL_192, in_X12_blastCount, sl_X12_blastCount⟩ ⟨by decide, by decide⟩ rfl ⟨by decide, by decide⟩ hl.1 rfl (Nat.le_of_ble_eq_true rfl) ⟨by show _ ≤ 601024; omega, by show _ ≤ 7293034; omega⟩ dL_law_473 (fun H locs S => ?_)
  refine lv_icmp_eq (tgt := 3423) hx hb dL_law_476 (by decide) (fun c1 => ?_) (fun c1 => absurd hres c1)
  exact W.widen (k := cells + 4) (n := slots + 24) (by omega) (by omega) (kk σ2 R L H locs ls hI2 S hl)
set_option maxHeartbeats 4000000 in
set_option maxRecDepth 100000 in
theorem lc_6 {l : Launch} {g : GL} {p : Program} {e : Jvm.Env} {s : State} {m : MethodId} {below : List Frame} {meth : Method} {c : Code} {b Lx : Nat} {xs : Nat → Int32} {N : Nat} {Inv : SI → (Nat → Nat → Nat) → Prop} {σ : SI} {R : Nat → Nat → Nat} {L : Nat → Nat → Int64} {x4 : Int32} {cells slots : Nat} (C : Cx l g p s m meth c cL_law 7 RL) (hX : va_X b Lx xs s s.heap) (hbl : b < s.heap.size) (hbA : ¬ gA g b) (hI : Inv σ R) (hIS : InvOk Inv) (hAg : Ag_6 N Inv) (hcs : cells + 4 ≤ 601024 ∧ slots + 24 ≤ 7293034) (kk : ∀ (σ' : SI) (R' : Nat → Nat → Nat) (L' : Nat → Nat → Int64) (H : Heap) (locs : List Loc) (ls : Array Slot), Inv σ' R' → S2 g s σ' R' L' H locs → lv_has ls 7 [(0, .ref b), (1, .ref (gb g + 1)), (2, .ref (gb g + 178)), (3, .ref (gb g + 194)), (4, .int x4)] → W p l e room_1 s m #[Value.ref b] below meth c H locs (cells + 4) (slots + 24) (lw_Z below #[Value.ref b] s) (F0 m 3423 ls [])) : ∀ (H : Heap) (locs : List Loc) (ls : Array Slot), S2 g s σ R L H locs → lv_has ls 7 [(0, .ref b), (1, .ref (gb g + 1)), (2, .ref (gb g + 178)), (3, .ref (gb g + 194)), (4, .int x4)] → W p l e room_1 s m #[Value.ref b] below meth c H locs (cells) (slots) (lw_Z below #[Value.ref b] s) (F0 m 481 ls []) := by
  intro H locs ls S hl
  obtain ⟨hc1, hc2⟩ := hcs
  have hx := C.1
  have hb := C.2.1
  have hSh := hIS σ R hI
  obtain ⟨b1, σ1, b2, σ2, hm, hmod, hI2, hres⟩ := hAg σ R hI
  refine lv_aload_n hx hb dL_law_481 rfl (lv_at hl 1 rfl) ?_
  refine x_callVI C S KX11 ok_1 (ok_X11_neighbourCount (L := L) hm hSh ok_1) ⟨cd_X11_neighbourCount, ni_RX11, ml_RL_193, in_X11_neighbourCount, sl_X11_neighbourCount⟩ ⟨by decide, by decide⟩ rfl ⟨by decide, by decide⟩ hl.1 rfl (Nat.le_of_ble_eq_true rfl) ⟨by show _ ≤ 601024; omega, by show _ ≤ 7293034; omega⟩ dL_law_482 (fun H locs S => ?_)
  refine lv_aload_n hx hb dL_law_485 rfl (lv_at hl 2 rfl) ?_
  refine x_callVI C S KX12 ok_178 (ok_X12_neighbourCount (L := L) hmod hSh ok_178) ⟨cd_X12_neighbourCount, ni_RX12, ml_RL_196, in_X12_neighbourCount, sl_X12_neighbourCount⟩ ⟨by decide, by decide⟩ rfl ⟨by decide, by decide⟩ hl.1 rfl (Nat.le_of_ble_eq_true rfl) ⟨by show _ ≤ 601024; omega, by show _ ≤ 7293034; omega⟩ dL_law_486 (fun H locs S => ?_)
  refine lv_icmp_eq (tgt := 3423) hx hb dL_law_489 (by decide) (fun c1 => ?_) (fun c1 => absurd hres c1)
  exact W.widen (k := cells + 4) (n := slots + 24) (by omega) (by omega) (kk σ2 R L H locs ls hI2 S hl)
set_option maxHeartbeats 4000000 in
set_option maxRecDepth 100000 in
theorem lc_7 {l : Launch} {g : GL} {p : Program} {e : Jvm.Env} {s : State} {m : MethodId} {below : List Frame} {meth : Method} {c : Code} {b Lx : Nat} {xs : Nat → Int32} {N : Nat} {Inv : SI → (Nat → Nat → Nat) → Prop} {σ : SI} {R : Nat → Nat → Nat} {L : Nat → Nat → Int64} {x4 : Int32} {cells slots : Nat} (C : Cx l g p s m meth c cL_law 7 RL) (hX : va_X b Lx xs s s.heap) (hbl : b < s.heap.size) (hbA : ¬ gA g b) (hI : Inv σ R) (hIS : InvOk Inv) (hAg : Ag_7 N Inv) (hcs : cells + 4 ≤ 601024 ∧ slots + 24 ≤ 7293034) (kk : ∀ (σ' : SI) (R' : Nat → Nat → Nat) (L' : Nat → Nat → Int64) (H : Heap) (locs : List Loc) (ls : Array Slot), Inv σ' R' → S2 g s σ' R' L' H locs → lv_has ls 7 [(0, .ref b), (1, .ref (gb g + 1)), (2, .ref (gb g + 178)), (3, .ref (gb g + 194)), (4, .int x4)] → W p l e room_1 s m #[Value.ref b] below meth c H locs (cells + 4) (slots + 24) (lw_Z below #[Value.ref b] s) (F0 m 3423 ls [])) : ∀ (H : Heap) (locs : List Loc) (ls : Array Slot), S2 g s σ R L H locs → lv_has ls 7 [(0, .ref b), (1, .ref (gb g + 1)), (2, .ref (gb g + 178)), (3, .ref (gb g + 194)), (4, .int x4)] → W p l e room_1 s m #[Value.ref b] below meth c H locs (cells) (slots) (lw_Z below #[Value.ref b] s) (F0 m 494 ls []) := by
  intro H locs ls S hl
  obtain ⟨hc1, hc2⟩ := hcs
  have hx := C.1
  have hb := C.2.1
  have hSh := hIS σ R hI
  obtain ⟨b1, σ1, b2, σ2, hm, hmod, hI2, hres⟩ := hAg σ R hI
  refine lv_aload_n hx hb dL_law_494 rfl (lv_at hl 1 rfl) ?_
  refine x_callVI C S KX11 ok_1 (ok_X11_roadCount (L := L) hm hSh ok_1) ⟨cd_X11_roadCount, ni_RX11, ml_RL_197, in_X11_roadCount, sl_X11_roadCount⟩ ⟨by decide, by decide⟩ rfl ⟨by decide, by decide⟩ hl.1 rfl (Nat.le_of_ble_eq_true rfl) ⟨by show _ ≤ 601024; omega, by show _ ≤ 7293034; omega⟩ dL_law_495 (fun H locs S => ?_)
  refine lv_aload_n hx hb dL_law_498 rfl (lv_at hl 2 rfl) ?_
  refine x_callVI C S KX12 ok_178 (ok_X12_roadCount (L := L) hmod hSh ok_178) ⟨cd_X12_roadCount, ni_RX12, ml_RL_200, in_X12_roadCount, sl_X12_roadCount⟩ ⟨by decide, by decide⟩ rfl ⟨by decide, by decide⟩ hl.1 rfl (Nat.le_of_ble_eq_true rfl) ⟨by show _ ≤ 601024; omega, by show _ ≤ 7293034; omega⟩ dL_law_499 (fun H locs S => ?_)
  refine lv_icmp_eq (tgt := 3423) hx hb dL_law_502 (by decide) (fun c1 => ?_) (fun c1 => absurd hres c1)
  exact W.widen (k := cells + 4) (n := slots + 24) (by omega) (by omega) (kk σ2 R L H locs ls hI2 S hl)
set_option maxHeartbeats 4000000 in
set_option maxRecDepth 100000 in
theorem lc_8 {l : Launch} {g : GL} {p : Program} {e : Jvm.Env} {s : State} {m : MethodId} {below : List Frame} {meth : Method} {c : Code} {b Lx : Nat} {xs : Nat → Int32} {N : Nat} {Inv : SI → (Nat → Nat → Nat) → Prop} {σ : SI} {R : Nat → Nat → Nat} {L : Nat → Nat → Int64} {x4 : Int32} {cells slots : Nat} (C : Cx l g p s m meth c cL_law 7 RL) (hX : va_X b Lx xs s s.heap) (hbl : b < s.heap.size) (hbA : ¬ gA g b) (hI : Inv σ R) (hIS : InvOk Inv) (hAg : Ag_8 N Inv) (hcs : cells + 4 ≤ 601024 ∧ slots + 24 ≤ 7293034) (kk : ∀ (σ' : SI) (R' : Nat → Nat → Nat) (L' : Nat → Nat → Int64) (H : Heap) (locs : List Loc) (ls : Array Slot), Inv σ' R' → S2 g s σ' R' L' H locs → lv_has ls 7 [(0, .ref b), (1, .ref (gb g + 1)), (2, .ref (gb g + 178)), (3, .ref (gb g + 194)), (4, .int x4)] → W p l e room_1 s m #[Value.ref b] below meth c H locs (cells + 4) (slots + 24) (lw_Z below #[Value.ref b] s) (F0 m 3423 ls [])) : ∀ (H : Heap) (locs : List Loc) (ls : Array Slot), S2 g s σ R L H locs → lv_has ls 7 [(0, .ref b), (1, .ref (gb g + 1)), (2, .ref (gb g + 178)), (3, .ref (gb g + 194)), (4, .int x4)] → W p l e room_1 s m #[Value.ref b] below meth c H locs (cells) (slots) (lw_Z below #[Value.ref b] s) (F0 m 507 ls []) := by
  intro H locs ls S hl
  obtain ⟨hc1, hc2⟩ := hcs
  have hx := C.1
  have hb := C.2.1
  have hSh := hIS σ R hI
  obtain ⟨b1, σ1, b2, σ2, hm, hmod, hI2, hres⟩ := hAg σ R hI
  refine lv_aload_n hx hb dL_law_507 rfl (lv_at hl 1 rfl) ?_
  refine x_callVI C S KX11 ok_1 (ok_X11_startCount (L := L) hm hSh ok_1) ⟨cd_X11_startCount, ni_RX11, ml_RL_201, in_X11_startCount, sl_X11_startCount⟩ ⟨by decide, by decide⟩ rfl ⟨by decide, by decide⟩ hl.1 rfl (Nat.le_of_ble_eq_true rfl) ⟨by show _ ≤ 601024; omega, by show _ ≤ 7293034; omega⟩ dL_law_508 (fun H locs S => ?_)
  refine lv_aload_n hx hb dL_law_511 rfl (lv_at hl 2 rfl) ?_
  refine x_callVI C S KX12 ok_178 (ok_X12_startCount (L := L) hmod hSh ok_178) ⟨cd_X12_startCount, ni_RX12, ml_RL_204, in_X12_startCount, sl_X12_startCount⟩ ⟨by decide, by decide⟩ rfl ⟨by decide, by decide⟩ hl.1 rfl (Nat.le_of_ble_eq_true rfl) ⟨by show _ ≤ 601024; omega, by show _ ≤ 7293034; omega⟩ dL_law_512 (fun H locs S => ?_)
  refine lv_icmp_eq (tgt := 3423) hx hb dL_law_515 (by decide) (fun c1 => ?_) (fun c1 => absurd hres c1)
  exact W.widen (k := cells + 4) (n := slots + 24) (by omega) (by omega) (kk σ2 R L H locs ls hI2 S hl)
set_option maxHeartbeats 4000000 in
set_option maxRecDepth 100000 in
theorem lc_9 {l : Launch} {g : GL} {p : Program} {e : Jvm.Env} {s : State} {m : MethodId} {below : List Frame} {meth : Method} {c : Code} {b Lx : Nat} {xs : Nat → Int32} {N : Nat} {Inv : SI → (Nat → Nat → Nat) → Prop} {σ : SI} {R : Nat → Nat → Nat} {L : Nat → Nat → Int64} {x4 : Int32} {cells slots : Nat} (C : Cx l g p s m meth c cL_law 7 RL) (hX : va_X b Lx xs s s.heap) (hbl : b < s.heap.size) (hbA : ¬ gA g b) (hI : Inv σ R) (hIS : InvOk Inv) (hAg : Ag_9 N Inv) (h1 : vp_in (x4 + 1) Lx) (hcs : cells + 4 ≤ 601024 ∧ slots + 24 ≤ 7293034) (kk : ∀ (σ' : SI) (R' : Nat → Nat → Nat) (L' : Nat → Nat → Int64) (H : Heap) (locs : List Loc) (ls : Array Slot), Inv σ' R' → S2 g s σ' R' L' H locs → lv_has ls 7 [(0, .ref b), (1, .ref (gb g + 1)), (2, .ref (gb g + 178)), (3, .ref (gb g + 194)), (4, .int x4)] → W p l e room_1 s m #[Value.ref b] below meth c H locs (cells + 4) (slots + 24) (lw_Z below #[Value.ref b] s) (F0 m 3423 ls [])) : ∀ (H : Heap) (locs : List Loc) (ls : Array Slot), S2 g s σ R L H locs → lv_has ls 7 [(0, .ref b), (1, .ref (gb g + 1)), (2, .ref (gb g + 178)), (3, .ref (gb g + 194)), (4, .int x4)] → W p l e room_1 s m #[Value.ref b] below meth c H locs (cells) (slots) (lw_Z below #[Value.ref b] s) (F0 m 520 ls []) := by
  intro H locs ls S hl
  obtain ⟨hc1, hc2⟩ := hcs
  have hx := C.1
  have hb := C.2.1
  have hSh := hIS σ R hI
  obtain ⟨res, σ1, b2, σ2, hm, hmod, hI2, hret, hthr⟩ := hAg σ R (xs (x4 + 1).toNatClampNeg) hI
  cases res with
  | inl v =>
    obtain ⟨ht, rfl⟩ := hret v rfl
    refine lv_aload_n hx hb dL_law_520 rfl (lv_at hl 1 rfl) ?_
    refine lv_aload_n hx hb dL_law_521 rfl (lv_at hl 0 rfl) ?_
    refine lv_iload hx hb dL_law_522 (lv_at hl 4 rfl) ?_
    refine lv_iconst (v := (1 : Int32)) hx hb dL_law_524 (by decide) ?_
    refine lv_iadd hx hb dL_law_525 ?_
    refine va_sld hx hb hX hbl hbA S.2 h1 dL_law_526 ?_
    refine lv_aload_n hx hb dL_law_527 rfl (lv_at hl 3 rfl) ?_
    refine v_callW C S (h_chargeCount_ret (L := L) hm hSh ok_1 ok_194) ⟨cd_L_chargeCount, ni_RL, ml_RL_205, st_L_chargeCount⟩ ⟨by decide, by decide⟩ rfl ⟨by decide, by decide⟩ hl.1 rfl (Nat.le_of_ble_eq_true rfl) ⟨by show _ ≤ 601024; omega, by show _ ≤ 7293034; omega⟩ dL_law_528 (fun w σ' H locs hp S => ?_)
    obtain ⟨rfl, rfl⟩ := hp
    have S : S2 g s σ1 R (fun a j => if a = 194 ∧ j = 0 then v.toInt64 else L a j) H locs := S
    obtain ⟨L1, hL1, hLv⟩ : ∃ L1 : Nat → Nat → Int64, (fun a j => if a = 194 ∧ j = 0 then v.toInt64 else L a j) = L1 ∧ L1 194 0 = v.toInt64 := ⟨_, rfl, if_pos ⟨rfl, rfl⟩⟩
    rw [hL1] at S
    refine lv_istore (lv' := [(5, .int 0), (0, .ref b), (1, .ref (gb g + 1)), (2, .ref (gb g + 178)), (3, .ref (gb g + 194)), (4, .int x4)]) hx hb dL_law_531 hl (by decide) rfl (fun ls hl => ?_)
    refine lv_aload_n hx hb dL_law_533 rfl (lv_at hl 3 rfl) ?_
    refine lv_aload_n hx hb dL_law_534 rfl (lv_at hl 1 rfl) ?_
    refine lv_iload hx hb dL_law_535 (lv_at hl 5 rfl) ?_
    refine lv_iconst (v := (1 : Int32)) hx hb dL_law_537 (by decide) ?_
    refine lv_iadd hx hb dL_law_538 ?_
    refine va_sld hx hb hX hbl hbA S.2 h1 dL_law_539 ?_
    refine x_callVI C S KX12 ok_178 (ok_X12_chargeCount (L := L1) hmod hSh ok_178) ⟨cd_X12_chargeCount, ni_RX12, ml_RL_208, in_X12_chargeCount, sl_X12_chargeCount⟩ ⟨by decide, by decide⟩ rfl ⟨by decide, by decide⟩ hl.1 rfl (Nat.le_of_ble_eq_true rfl) ⟨by show _ ≤ 601024; omega, by show _ ≤ 7293034; omega⟩ dL_law_540 (fun H locs S => ?_)
    refine lv_istore (lv' := [(6, .int v), (5, .int 0), (0, .ref b), (1, .ref (gb g + 1)), (2, .ref (gb g + 178)), (3, .ref (gb g + 194)), (4, .int x4)]) hx hb dL_law_543 hl (by decide) rfl (fun ls hl => ?_)
    refine lv_aload_n hx hb dL_law_545 rfl (lv_at hl 4 rfl) ?_
    refine x_callVI C S KX12 ok_178 (ok_X12_thrown (L := L1) (thr_eq N R σ2 178) hSh ok_178) ⟨cd_X12_thrown, ni_RX12, ml_RL_178, in_X12_thrown, sl_X12_thrown⟩ ⟨by decide, by decide⟩ rfl ⟨by decide, by decide⟩ hl.1 rfl (Nat.le_of_ble_eq_true rfl) ⟨by show _ ≤ 601024; omega, by show _ ≤ 7293034; omega⟩ dL_law_546 (fun H locs S => ?_)
    refine lv_iload hx hb dL_law_549 (lv_at hl 1 rfl) ?_
    refine lv_icmp_eq (tgt := 556) hx hb dL_law_551 (by decide) (fun c1 => ?_) (fun c1 => absurd ht c1)
    refine lv_iload hx hb dL_law_556 (lv_at hl 1 rfl) ?_
    refine lv_if_ne (tgt := 573) hx hb dL_law_558 (by decide) (fun c2 => absurd rfl c2) (fun c2 => ?_)
    refine lv_aload_n hx hb dL_law_561 rfl (lv_at hl 5 rfl) ?_
    refine lv_iconst (v := (0 : Int32)) hx hb dL_law_562 (by decide) ?_
    refine x_lald C S ok_194 dL_law_563 ?_
    refine lv_iload hx hb dL_law_564 (lv_at hl 0 rfl) ?_
    refine lv_i2l hx hb dL_law_566 rfl ?_
    refine W.lcmp hx hb dL_law_567 ?_
    refine lv_if_eq (tgt := 573) hx hb dL_law_568 (by decide) (fun c4 => ?_) (fun c4 => absurd (by show lg_cmp (L1 194 0) _ = 0; rw [hLv]; exact lgc_self _) c4)
    refine lv_goto (tgt := 3423) hx hb dL_law_573 (by decide) ?_
    exact W.widen (k := cells + 4) (n := slots + 24) (by omega) (by omega) (kk σ2 R L1 H locs ls hI2 S (lv_sub hl [2, 3, 4, 5, 6] rfl))
  | inr q =>
    obtain ⟨rfl, ht⟩ := hthr q rfl
    refine lv_aload_n hx hb dL_law_520 rfl (lv_at hl 1 rfl) ?_
    refine lv_aload_n hx hb dL_law_521 rfl (lv_at hl 0 rfl) ?_
    refine lv_iload hx hb dL_law_522 (lv_at hl 4 rfl) ?_
    refine lv_iconst (v := (1 : Int32)) hx hb dL_law_524 (by decide) ?_
    refine lv_iadd hx hb dL_law_525 ?_
    refine va_sld hx hb hX hbl hbA S.2 h1 dL_law_526 ?_
    refine lv_aload_n hx hb dL_law_527 rfl (lv_at hl 3 rfl) ?_
    refine v_callW C S (h_chargeCount_x0 (L := L) hm hSh ok_1 ok_194) ⟨cd_L_chargeCount, ni_RL, ml_RL_205, st_L_chargeCount⟩ ⟨by decide, by decide⟩ rfl ⟨by decide, by decide⟩ hl.1 rfl (Nat.le_of_ble_eq_true rfl) ⟨by show _ ≤ 601024; omega, by show _ ≤ 7293034; omega⟩ dL_law_528 (fun w σ' H locs hp S => ?_)
    obtain ⟨rfl, rfl⟩ := hp
    have S : S2 g s σ1 R L H locs := S
    refine lv_istore (lv' := [(5, .int 1), (0, .ref b), (1, .ref (gb g + 1)), (2, .ref (gb g + 178)), (3, .ref (gb g + 194)), (4, .int x4)]) hx hb dL_law_531 hl (by decide) rfl (fun ls hl => ?_)
    refine lv_aload_n hx hb dL_law_533 rfl (lv_at hl 3 rfl) ?_
    refine lv_aload_n hx hb dL_law_534 rfl (lv_at hl 1 rfl) ?_
    refine lv_iload hx hb dL_law_535 (lv_at hl 5 rfl) ?_
    refine lv_iconst (v := (1 : Int32)) hx hb dL_law_537 (by decide) ?_
    refine lv_iadd hx hb dL_law_538 ?_
    refine va_sld hx hb hX hbl hbA S.2 h1 dL_law_539 ?_
    refine x_callVI C S KX12 ok_178 (ok_X12_chargeCount (L := L) hmod hSh ok_178) ⟨cd_X12_chargeCount, ni_RX12, ml_RL_208, in_X12_chargeCount, sl_X12_chargeCount⟩ ⟨by decide, by decide⟩ rfl ⟨by decide, by decide⟩ hl.1 rfl (Nat.le_of_ble_eq_true rfl) ⟨by show _ ≤ 601024; omega, by show _ ≤ 7293034; omega⟩ dL_law_540 (fun H locs S => ?_)
    refine lv_istore (lv' := [(6, .int b2), (5, .int 1), (0, .ref b), (1, .ref (gb g + 1)), (2, .ref (gb g + 178)), (3, .ref (gb g + 194)), (4, .int x4)]) hx hb dL_law_543 hl (by decide) rfl (fun ls hl => ?_)
    refine lv_aload_n hx hb dL_law_545 rfl (lv_at hl 4 rfl) ?_
    refine x_callVI C S KX12 ok_178 (ok_X12_thrown (L := L) (thr_eq N R σ2 178) hSh ok_178) ⟨cd_X12_thrown, ni_RX12, ml_RL_178, in_X12_thrown, sl_X12_thrown⟩ ⟨by decide, by decide⟩ rfl ⟨by decide, by decide⟩ hl.1 rfl (Nat.le_of_ble_eq_true rfl) ⟨by show _ ≤ 601024; omega, by show _ ≤ 7293034; omega⟩ dL_law_546 (fun H locs S => ?_)
    refine lv_iload hx hb dL_law_549 (lv_at hl 1 rfl) ?_
    refine lv_icmp_eq (tgt := 556) hx hb dL_law_551 (by decide) (fun c1 => ?_) (fun c1 => absurd ht c1)
    refine lv_iload hx hb dL_law_556 (lv_at hl 1 rfl) ?_
    refine lv_if_ne (tgt := 573) hx hb dL_law_558 (by decide) (fun c2 => ?_) (fun c2 => absurd c2 (by decide))
    refine lv_goto (tgt := 3423) hx hb dL_law_573 (by decide) ?_
    exact W.widen (k := cells + 4) (n := slots + 24) (by omega) (by omega) (kk σ2 R L H locs ls hI2 S (lv_sub hl [2, 3, 4, 5, 6] rfl))
set_option maxHeartbeats 4000000 in
set_option maxRecDepth 100000 in
theorem lc_10 {l : Launch} {g : GL} {p : Program} {e : Jvm.Env} {s : State} {m : MethodId} {below : List Frame} {meth : Method} {c : Code} {b Lx : Nat} {xs : Nat → Int32} {N : Nat} {Inv : SI → (Nat → Nat → Nat) → Prop} {σ : SI} {R : Nat → Nat → Nat} {L : Nat → Nat → Int64} {x4 : Int32} {cells slots : Nat} (C : Cx l g p s m meth c cL_law 7 RL) (hX : va_X b Lx xs s s.heap) (hbl : b < s.heap.size) (hbA : ¬ gA g b) (hI : Inv σ R) (hIS : InvOk Inv) (hAg : Ag_10 N Inv) (h1 : vp_in (x4 + 1) Lx) (h2 : vp_in (x4 + 2) Lx) (hcs : cells + 4 ≤ 601024 ∧ slots + 24 ≤ 7293034) (kk : ∀ (σ' : SI) (R' : Nat → Nat → Nat) (L' : Nat → Nat → Int64) (H : Heap) (locs : List Loc) (ls : Array Slot), Inv σ' R' → S2 g s σ' R' L' H locs → lv_has ls 7 [(0, .ref b), (1, .ref (gb g + 1)), (2, .ref (gb g + 178)), (3, .ref (gb g + 194)), (4, .int x4)] → W p l e room_1 s m #[Value.ref b] below meth c H locs (cells + 4) (slots + 24) (lw_Z below #[Value.ref b] s) (F0 m 3423 ls [])) : ∀ (H : Heap) (locs : List Loc) (ls : Array Slot), S2 g s σ R L H locs → lv_has ls 7 [(0, .ref b), (1, .ref (gb g + 1)), (2, .ref (gb g + 178)), (3, .ref (gb g + 194)), (4, .int x4)] → W p l e room_1 s m #[Value.ref b] below meth c H locs (cells) (slots) (lw_Z below #[Value.ref b] s) (F0 m 576 ls []) := by
  intro H locs ls S hl
  obtain ⟨hc1, hc2⟩ := hcs
  have hx := C.1
  have hb := C.2.1
  have hSh := hIS σ R hI
  obtain ⟨res, σ1, b2, σ2, hm, hmod, hI2, hret, hthr⟩ := hAg σ R (xs (x4 + 1).toNatClampNeg) (xs (x4 + 2).toNatClampNeg) hI
  cases res with
  | inl v =>
    obtain ⟨ht, rfl⟩ := hret v rfl
    refine lv_aload_n hx hb dL_law_576 rfl (lv_at hl 1 rfl) ?_
    refine lv_aload_n hx hb dL_law_577 rfl (lv_at hl 0 rfl) ?_
    refine lv_iload hx hb dL_law_578 (lv_at hl 4 rfl) ?_
    refine lv_iconst (v := (1 : Int32)) hx hb dL_law_580 (by decide) ?_
    refine lv_iadd hx hb dL_law_581 ?_
    refine va_sld hx hb hX hbl hbA S.2 h1 dL_law_582 ?_
    refine lv_aload_n hx hb dL_law_583 rfl (lv_at hl 0 rfl) ?_
    refine lv_iload hx hb dL_law_584 (lv_at hl 4 rfl) ?_
    refine lv_iconst (v := (2 : Int32)) hx hb dL_law_586 (by decide) ?_
    refine lv_iadd hx hb dL_law_587 ?_
    refine va_sld hx hb hX hbl hbA S.2 h2 dL_law_588 ?_
    refine lv_aload_n hx hb dL_law_589 rfl (lv_at hl 3 rfl) ?_
    refine v_callW C S (h_chargeSize_ret (L := L) hm hSh ok_1 ok_194) ⟨cd_L_chargeSize, ni_RL, ml_RL_209, st_L_chargeSize⟩ ⟨by decide, by decide⟩ rfl ⟨by decide, by decide⟩ hl.1 rfl (Nat.le_of_ble_eq_true rfl) ⟨by show _ ≤ 601024; omega, by show _ ≤ 7293034; omega⟩ dL_law_590 (fun w σ' H locs hp S => ?_)
    obtain ⟨rfl, rfl⟩ := hp
    have S : S2 g s σ1 R (fun a j => if a = 194 ∧ j = 0 then v.toInt64 else L a j) H locs := S
    obtain ⟨L1, hL1, hLv⟩ : ∃ L1 : Nat → Nat → Int64, (fun a j => if a = 194 ∧ j = 0 then v.toInt64 else L a j) = L1 ∧ L1 194 0 = v.toInt64 := ⟨_, rfl, if_pos ⟨rfl, rfl⟩⟩
    rw [hL1] at S
    refine lv_istore (lv' := [(5, .int 0), (0, .ref b), (1, .ref (gb g + 1)), (2, .ref (gb g + 178)), (3, .ref (gb g + 194)), (4, .int x4)]) hx hb dL_law_593 hl (by decide) rfl (fun ls hl => ?_)
    refine lv_aload_n hx hb dL_law_595 rfl (lv_at hl 3 rfl) ?_
    refine lv_aload_n hx hb dL_law_596 rfl (lv_at hl 1 rfl) ?_
    refine lv_iload hx hb dL_law_597 (lv_at hl 5 rfl) ?_
    refine lv_iconst (v := (1 : Int32)) hx hb dL_law_599 (by decide) ?_
    refine lv_iadd hx hb dL_law_600 ?_
    refine va_sld hx hb hX hbl hbA S.2 h1 dL_law_601 ?_
    refine lv_aload_n hx hb dL_law_602 rfl (lv_at hl 1 rfl) ?_
    refine lv_iload hx hb dL_law_603 (lv_at hl 5 rfl) ?_
    refine lv_iconst (v := (2 : Int32)) hx hb dL_law_605 (by decide) ?_
    refine lv_iadd hx hb dL_law_606 ?_
    refine va_sld hx hb hX hbl hbA S.2 h2 dL_law_607 ?_
    refine x_callVI C S KX12 ok_178 (ok_X12_chargeSize (L := L1) hmod hSh ok_178) ⟨cd_X12_chargeSize, ni_RX12, ml_RL_212, in_X12_chargeSize, sl_X12_chargeSize⟩ ⟨by decide, by decide⟩ rfl ⟨by decide, by decide⟩ hl.1 rfl (Nat.le_of_ble_eq_true rfl) ⟨by show _ ≤ 601024; omega, by show _ ≤ 7293034; omega⟩ dL_law_608 (fun H locs S => ?_)
    refine lv_istore (lv' := [(6, .int v), (5, .int 0), (0, .ref b), (1, .ref (gb g + 1)), (2, .ref (gb g + 178)), (3, .ref (gb g + 194)), (4, .int x4)]) hx hb dL_law_611 hl (by decide) rfl (fun ls hl => ?_)
    refine lv_aload_n hx hb dL_law_613 rfl (lv_at hl 4 rfl) ?_
    refine x_callVI C S KX12 ok_178 (ok_X12_thrown (L := L1) (thr_eq N R σ2 178) hSh ok_178) ⟨cd_X12_thrown, ni_RX12, ml_RL_178, in_X12_thrown, sl_X12_thrown⟩ ⟨by decide, by decide⟩ rfl ⟨by decide, by decide⟩ hl.1 rfl (Nat.le_of_ble_eq_true rfl) ⟨by show _ ≤ 601024; omega, by show _ ≤ 7293034; omega⟩ dL_law_614 (fun H locs S => ?_)
    refine lv_iload hx hb dL_law_617 (lv_at hl 1 rfl) ?_
    refine lv_icmp_eq (tgt := 624) hx hb dL_law_619 (by decide) (fun c1 => ?_) (fun c1 => absurd ht c1)
    refine lv_iload hx hb dL_law_624 (lv_at hl 1 rfl) ?_
    refine lv_if_ne (tgt := 641) hx hb dL_law_626 (by decide) (fun c2 => absurd rfl c2) (fun c2 => ?_)
    refine lv_aload_n hx hb dL_law_629 rfl (lv_at hl 5 rfl) ?_
    refine lv_iconst (v := (0 : Int32)) hx hb dL_law_630 (by decide) ?_
    refine x_lald C S ok_194 dL_law_631 ?_
    refine lv_iload hx hb dL_law_632 (lv_at hl 0 rfl) ?_
    refine lv_i2l hx hb dL_law_634 rfl ?_
    refine W.lcmp hx hb dL_law_635 ?_
    refine lv_if_eq (tgt := 641) hx hb dL_law_636 (by decide) (fun c4 => ?_) (fun c4 => absurd (by show lg_cmp (L1 194 0) _ = 0; rw [hLv]; exact lgc_self _) c4)
    refine lv_goto (tgt := 3423) hx hb dL_law_641 (by decide) ?_
    exact W.widen (k := cells + 4) (n := slots + 24) (by omega) (by omega) (kk σ2 R L1 H locs ls hI2 S (lv_sub hl [2, 3, 4, 5, 6] rfl))
  | inr q =>
    obtain ⟨rfl, ht⟩ := hthr q rfl
    refine lv_aload_n hx hb dL_law_576 rfl (lv_at hl 1 rfl) ?_
    refine lv_aload_n hx hb dL_law_577 rfl (lv_at hl 0 rfl) ?_
    refine lv_iload hx hb dL_law_578 (lv_at hl 4 rfl) ?_
    refine lv_iconst (v := (1 : Int32)) hx hb dL_law_580 (by decide) ?_
    refine lv_iadd hx hb dL_law_581 ?_
    refine va_sld hx hb hX hbl hbA S.2 h1 dL_law_582 ?_
    refine lv_aload_n hx hb dL_law_583 rfl (lv_at hl 0 rfl) ?_
    refine lv_iload hx hb dL_law_584 (lv_at hl 4 rfl) ?_
    refine lv_iconst (v := (2 : Int32)) hx hb dL_law_586 (by decide) ?_
    refine lv_iadd hx hb dL_law_587 ?_
    refine va_sld hx hb hX hbl hbA S.2 h2 dL_law_588 ?_
    refine lv_aload_n hx hb dL_law_589 rfl (lv_at hl 3 rfl) ?_
    refine v_callW C S (h_chargeSize_x0 (L := L) hm hSh ok_1 ok_194) ⟨cd_L_chargeSize, ni_RL, ml_RL_209, st_L_chargeSize⟩ ⟨by decide, by decide⟩ rfl ⟨by decide, by decide⟩ hl.1 rfl (Nat.le_of_ble_eq_true rfl) ⟨by show _ ≤ 601024; omega, by show _ ≤ 7293034; omega⟩ dL_law_590 (fun w σ' H locs hp S => ?_)
    obtain ⟨rfl, rfl⟩ := hp
    have S : S2 g s σ1 R L H locs := S
    refine lv_istore (lv' := [(5, .int 1), (0, .ref b), (1, .ref (gb g + 1)), (2, .ref (gb g + 178)), (3, .ref (gb g + 194)), (4, .int x4)]) hx hb dL_law_593 hl (by decide) rfl (fun ls hl => ?_)
    refine lv_aload_n hx hb dL_law_595 rfl (lv_at hl 3 rfl) ?_
    refine lv_aload_n hx hb dL_law_596 rfl (lv_at hl 1 rfl) ?_
    refine lv_iload hx hb dL_law_597 (lv_at hl 5 rfl) ?_
    refine lv_iconst (v := (1 : Int32)) hx hb dL_law_599 (by decide) ?_
    refine lv_iadd hx hb dL_law_600 ?_
    refine va_sld hx hb hX hbl hbA S.2 h1 dL_law_601 ?_
    refine lv_aload_n hx hb dL_law_602 rfl (lv_at hl 1 rfl) ?_
    refine lv_iload hx hb dL_law_603 (lv_at hl 5 rfl) ?_
    refine lv_iconst (v := (2 : Int32)) hx hb dL_law_605 (by decide) ?_
    refine lv_iadd hx hb dL_law_606 ?_
    refine va_sld hx hb hX hbl hbA S.2 h2 dL_law_607 ?_
    refine x_callVI C S KX12 ok_178 (ok_X12_chargeSize (L := L) hmod hSh ok_178) ⟨cd_X12_chargeSize, ni_RX12, ml_RL_212, in_X12_chargeSize, sl_X12_chargeSize⟩ ⟨by decide, by decide⟩ rfl ⟨by decide, by decide⟩ hl.1 rfl (Nat.le_of_ble_eq_true rfl) ⟨by show _ ≤ 601024; omega, by show _ ≤ 7293034; omega⟩ dL_law_608 (fun H locs S => ?_)
    refine lv_istore (lv' := [(6, .int b2), (5, .int 1), (0, .ref b), (1, .ref (gb g + 1)), (2, .ref (gb g + 178)), (3, .ref (gb g + 194)), (4, .int x4)]) hx hb dL_law_611 hl (by decide) rfl (fun ls hl => ?_)
    refine lv_aload_n hx hb dL_law_613 rfl (lv_at hl 4 rfl) ?_
    refine x_callVI C S KX12 ok_178 (ok_X12_thrown (L := L) (thr_eq N R σ2 178) hSh ok_178) ⟨cd_X12_thrown, ni_RX12, ml_RL_178, in_X12_thrown, sl_X12_thrown⟩ ⟨by decide, by decide⟩ rfl ⟨by decide, by decide⟩ hl.1 rfl (Nat.le_of_ble_eq_true rfl) ⟨by show _ ≤ 601024; omega, by show _ ≤ 7293034; omega⟩ dL_law_614 (fun H locs S => ?_)
    refine lv_iload hx hb dL_law_617 (lv_at hl 1 rfl) ?_
    refine lv_icmp_eq (tgt := 624) hx hb dL_law_619 (by decide) (fun c1 => ?_) (fun c1 => absurd ht c1)
    refine lv_iload hx hb dL_law_624 (lv_at hl 1 rfl) ?_
    refine lv_if_ne (tgt := 641) hx hb dL_law_626 (by decide) (fun c2 => ?_) (fun c2 => absurd c2 (by decide))
    refine lv_goto (tgt := 3423) hx hb dL_law_641 (by decide) ?_
    exact W.widen (k := cells + 4) (n := slots + 24) (by omega) (by omega) (kk σ2 R L H locs ls hI2 S (lv_sub hl [2, 3, 4, 5, 6] rfl))
set_option maxHeartbeats 4000000 in
set_option maxRecDepth 100000 in
theorem lc_11 {l : Launch} {g : GL} {p : Program} {e : Jvm.Env} {s : State} {m : MethodId} {below : List Frame} {meth : Method} {c : Code} {b Lx : Nat} {xs : Nat → Int32} {N : Nat} {Inv : SI → (Nat → Nat → Nat) → Prop} {σ : SI} {R : Nat → Nat → Nat} {L : Nat → Nat → Int64} {x4 : Int32} {cells slots : Nat} (C : Cx l g p s m meth c cL_law 7 RL) (hX : va_X b Lx xs s s.heap) (hbl : b < s.heap.size) (hbA : ¬ gA g b) (hI : Inv σ R) (hIS : InvOk Inv) (hAg : Ag_11 N Inv) (h1 : vp_in (x4 + 1) Lx) (h2 : vp_in (x4 + 2) Lx) (hcs : cells + 4 ≤ 601024 ∧ slots + 24 ≤ 7293034) (kk : ∀ (σ' : SI) (R' : Nat → Nat → Nat) (L' : Nat → Nat → Int64) (H : Heap) (locs : List Loc) (ls : Array Slot), Inv σ' R' → S2 g s σ' R' L' H locs → lv_has ls 7 [(0, .ref b), (1, .ref (gb g + 1)), (2, .ref (gb g + 178)), (3, .ref (gb g + 194)), (4, .int x4)] → W p l e room_1 s m #[Value.ref b] below meth c H locs (cells + 4) (slots + 24) (lw_Z below #[Value.ref b] s) (F0 m 3423 ls [])) : ∀ (H : Heap) (locs : List Loc) (ls : Array Slot), S2 g s σ R L H locs → lv_has ls 7 [(0, .ref b), (1, .ref (gb g + 1)), (2, .ref (gb g + 178)), (3, .ref (gb g + 194)), (4, .int x4)] → W p l e room_1 s m #[Value.ref b] below meth c H locs (cells) (slots) (lw_Z below #[Value.ref b] s) (F0 m 644 ls []) := by
  intro H locs ls S hl
  obtain ⟨hc1, hc2⟩ := hcs
  have hx := C.1
  have hb := C.2.1
  have hSh := hIS σ R hI
  obtain ⟨res, σ1, b2, σ2, hm, hmod, hI2, hret, hthr⟩ := hAg σ R (xs (x4 + 1).toNatClampNeg) (xs (x4 + 2).toNatClampNeg) hI
  cases res with
  | inl v =>
    obtain ⟨ht, rfl⟩ := hret v rfl
    refine lv_aload_n hx hb dL_law_644 rfl (lv_at hl 1 rfl) ?_
    refine lv_aload_n hx hb dL_law_645 rfl (lv_at hl 0 rfl) ?_
    refine lv_iload hx hb dL_law_646 (lv_at hl 4 rfl) ?_
    refine lv_iconst (v := (1 : Int32)) hx hb dL_law_648 (by decide) ?_
    refine lv_iadd hx hb dL_law_649 ?_
    refine va_sld hx hb hX hbl hbA S.2 h1 dL_law_650 ?_
    refine lv_aload_n hx hb dL_law_651 rfl (lv_at hl 0 rfl) ?_
    refine lv_iload hx hb dL_law_652 (lv_at hl 4 rfl) ?_
    refine lv_iconst (v := (2 : Int32)) hx hb dL_law_654 (by decide) ?_
    refine lv_iadd hx hb dL_law_655 ?_
    refine va_sld hx hb hX hbl hbA S.2 h2 dL_law_656 ?_
    refine lv_aload_n hx hb dL_law_657 rfl (lv_at hl 3 rfl) ?_
    refine v_callW C S (h_delay_ret (L := L) hm hSh ok_1 ok_194) ⟨cd_L_delay, ni_RL, ml_RL_213, st_L_delay⟩ ⟨by decide, by decide⟩ rfl ⟨by decide, by decide⟩ hl.1 rfl (Nat.le_of_ble_eq_true rfl) ⟨by show _ ≤ 601024; omega, by show _ ≤ 7293034; omega⟩ dL_law_658 (fun w σ' H locs hp S => ?_)
    obtain ⟨rfl, rfl⟩ := hp
    have S : S2 g s σ1 R (fun a j => if a = 194 ∧ j = 0 then v.toInt64 else L a j) H locs := S
    obtain ⟨L1, hL1, hLv⟩ : ∃ L1 : Nat → Nat → Int64, (fun a j => if a = 194 ∧ j = 0 then v.toInt64 else L a j) = L1 ∧ L1 194 0 = v.toInt64 := ⟨_, rfl, if_pos ⟨rfl, rfl⟩⟩
    rw [hL1] at S
    refine lv_istore (lv' := [(5, .int 0), (0, .ref b), (1, .ref (gb g + 1)), (2, .ref (gb g + 178)), (3, .ref (gb g + 194)), (4, .int x4)]) hx hb dL_law_661 hl (by decide) rfl (fun ls hl => ?_)
    refine lv_aload_n hx hb dL_law_663 rfl (lv_at hl 3 rfl) ?_
    refine lv_aload_n hx hb dL_law_664 rfl (lv_at hl 1 rfl) ?_
    refine lv_iload hx hb dL_law_665 (lv_at hl 5 rfl) ?_
    refine lv_iconst (v := (1 : Int32)) hx hb dL_law_667 (by decide) ?_
    refine lv_iadd hx hb dL_law_668 ?_
    refine va_sld hx hb hX hbl hbA S.2 h1 dL_law_669 ?_
    refine lv_aload_n hx hb dL_law_670 rfl (lv_at hl 1 rfl) ?_
    refine lv_iload hx hb dL_law_671 (lv_at hl 5 rfl) ?_
    refine lv_iconst (v := (2 : Int32)) hx hb dL_law_673 (by decide) ?_
    refine lv_iadd hx hb dL_law_674 ?_
    refine va_sld hx hb hX hbl hbA S.2 h2 dL_law_675 ?_
    refine x_callVI C S KX12 ok_178 (ok_X12_delay (L := L1) hmod hSh ok_178) ⟨cd_X12_delay, ni_RX12, ml_RL_215, in_X12_delay, sl_X12_delay⟩ ⟨by decide, by decide⟩ rfl ⟨by decide, by decide⟩ hl.1 rfl (Nat.le_of_ble_eq_true rfl) ⟨by show _ ≤ 601024; omega, by show _ ≤ 7293034; omega⟩ dL_law_676 (fun H locs S => ?_)
    refine lv_istore (lv' := [(6, .int v), (5, .int 0), (0, .ref b), (1, .ref (gb g + 1)), (2, .ref (gb g + 178)), (3, .ref (gb g + 194)), (4, .int x4)]) hx hb dL_law_679 hl (by decide) rfl (fun ls hl => ?_)
    refine lv_aload_n hx hb dL_law_681 rfl (lv_at hl 4 rfl) ?_
    refine x_callVI C S KX12 ok_178 (ok_X12_thrown (L := L1) (thr_eq N R σ2 178) hSh ok_178) ⟨cd_X12_thrown, ni_RX12, ml_RL_178, in_X12_thrown, sl_X12_thrown⟩ ⟨by decide, by decide⟩ rfl ⟨by decide, by decide⟩ hl.1 rfl (Nat.le_of_ble_eq_true rfl) ⟨by show _ ≤ 601024; omega, by show _ ≤ 7293034; omega⟩ dL_law_682 (fun H locs S => ?_)
    refine lv_iload hx hb dL_law_685 (lv_at hl 1 rfl) ?_
    refine lv_icmp_eq (tgt := 692) hx hb dL_law_687 (by decide) (fun c1 => ?_) (fun c1 => absurd ht c1)
    refine lv_iload hx hb dL_law_692 (lv_at hl 1 rfl) ?_
    refine lv_if_ne (tgt := 709) hx hb dL_law_694 (by decide) (fun c2 => absurd rfl c2) (fun c2 => ?_)
    refine lv_aload_n hx hb dL_law_697 rfl (lv_at hl 5 rfl) ?_
    refine lv_iconst (v := (0 : Int32)) hx hb dL_law_698 (by decide) ?_
    refine x_lald C S ok_194 dL_law_699 ?_
    refine lv_iload hx hb dL_law_700 (lv_at hl 0 rfl) ?_
    refine lv_i2l hx hb dL_law_702 rfl ?_
    refine W.lcmp hx hb dL_law_703 ?_
    refine lv_if_eq (tgt := 709) hx hb dL_law_704 (by decide) (fun c4 => ?_) (fun c4 => absurd (by show lg_cmp (L1 194 0) _ = 0; rw [hLv]; exact lgc_self _) c4)
    refine lv_goto (tgt := 3423) hx hb dL_law_709 (by decide) ?_
    exact W.widen (k := cells + 4) (n := slots + 24) (by omega) (by omega) (kk σ2 R L1 H locs ls hI2 S (lv_sub hl [2, 3, 4, 5, 6] rfl))
  | inr q =>
    obtain ⟨rfl, ht⟩ := hthr q rfl
    refine lv_aload_n hx hb dL_law_644 rfl (lv_at hl 1 rfl) ?_
    refine lv_aload_n hx hb dL_law_645 rfl (lv_at hl 0 rfl) ?_
    refine lv_iload hx hb dL_law_646 (lv_at hl 4 rfl) ?_
    refine lv_iconst (v := (1 : Int32)) hx hb dL_law_648 (by decide) ?_
    refine lv_iadd hx hb dL_law_649 ?_
    refine va_sld hx hb hX hbl hbA S.2 h1 dL_law_650 ?_
    refine lv_aload_n hx hb dL_law_651 rfl (lv_at hl 0 rfl) ?_
    refine lv_iload hx hb dL_law_652 (lv_at hl 4 rfl) ?_
    refine lv_iconst (v := (2 : Int32)) hx hb dL_law_654 (by decide) ?_
    refine lv_iadd hx hb dL_law_655 ?_
    refine va_sld hx hb hX hbl hbA S.2 h2 dL_law_656 ?_
    refine lv_aload_n hx hb dL_law_657 rfl (lv_at hl 3 rfl) ?_
    refine v_callW C S (h_delay_x0 (L := L) hm hSh ok_1 ok_194) ⟨cd_L_delay, ni_RL, ml_RL_213, st_L_delay⟩ ⟨by decide, by decide⟩ rfl ⟨by decide, by decide⟩ hl.1 rfl (Nat.le_of_ble_eq_true rfl) ⟨by show _ ≤ 601024; omega, by show _ ≤ 7293034; omega⟩ dL_law_658 (fun w σ' H locs hp S => ?_)
    obtain ⟨rfl, rfl⟩ := hp
    have S : S2 g s σ1 R L H locs := S
    refine lv_istore (lv' := [(5, .int 1), (0, .ref b), (1, .ref (gb g + 1)), (2, .ref (gb g + 178)), (3, .ref (gb g + 194)), (4, .int x4)]) hx hb dL_law_661 hl (by decide) rfl (fun ls hl => ?_)
    refine lv_aload_n hx hb dL_law_663 rfl (lv_at hl 3 rfl) ?_
    refine lv_aload_n hx hb dL_law_664 rfl (lv_at hl 1 rfl) ?_
    refine lv_iload hx hb dL_law_665 (lv_at hl 5 rfl) ?_
    refine lv_iconst (v := (1 : Int32)) hx hb dL_law_667 (by decide) ?_
    refine lv_iadd hx hb dL_law_668 ?_
    refine va_sld hx hb hX hbl hbA S.2 h1 dL_law_669 ?_
    refine lv_aload_n hx hb dL_law_670 rfl (lv_at hl 1 rfl) ?_
    refine lv_iload hx hb dL_law_671 (lv_at hl 5 rfl) ?_
    refine lv_iconst (v := (2 : Int32)) hx hb dL_law_673 (by decide) ?_
    refine lv_iadd hx hb dL_law_674 ?_
    refine va_sld hx hb hX hbl hbA S.2 h2 dL_law_675 ?_
    refine x_callVI C S KX12 ok_178 (ok_X12_delay (L := L) hmod hSh ok_178) ⟨cd_X12_delay, ni_RX12, ml_RL_215, in_X12_delay, sl_X12_delay⟩ ⟨by decide, by decide⟩ rfl ⟨by decide, by decide⟩ hl.1 rfl (Nat.le_of_ble_eq_true rfl) ⟨by show _ ≤ 601024; omega, by show _ ≤ 7293034; omega⟩ dL_law_676 (fun H locs S => ?_)
    refine lv_istore (lv' := [(6, .int b2), (5, .int 1), (0, .ref b), (1, .ref (gb g + 1)), (2, .ref (gb g + 178)), (3, .ref (gb g + 194)), (4, .int x4)]) hx hb dL_law_679 hl (by decide) rfl (fun ls hl => ?_)
    refine lv_aload_n hx hb dL_law_681 rfl (lv_at hl 4 rfl) ?_
    refine x_callVI C S KX12 ok_178 (ok_X12_thrown (L := L) (thr_eq N R σ2 178) hSh ok_178) ⟨cd_X12_thrown, ni_RX12, ml_RL_178, in_X12_thrown, sl_X12_thrown⟩ ⟨by decide, by decide⟩ rfl ⟨by decide, by decide⟩ hl.1 rfl (Nat.le_of_ble_eq_true rfl) ⟨by show _ ≤ 601024; omega, by show _ ≤ 7293034; omega⟩ dL_law_682 (fun H locs S => ?_)
    refine lv_iload hx hb dL_law_685 (lv_at hl 1 rfl) ?_
    refine lv_icmp_eq (tgt := 692) hx hb dL_law_687 (by decide) (fun c1 => ?_) (fun c1 => absurd ht c1)
    refine lv_iload hx hb dL_law_692 (lv_at hl 1 rfl) ?_
    refine lv_if_ne (tgt := 709) hx hb dL_law_694 (by decide) (fun c2 => ?_) (fun c2 => absurd c2 (by decide))
    refine lv_goto (tgt := 3423) hx hb dL_law_709 (by decide) ?_
    exact W.widen (k := cells + 4) (n := slots + 24) (by omega) (by omega) (kk σ2 R L H locs ls hI2 S (lv_sub hl [2, 3, 4, 5, 6] rfl))
set_option maxHeartbeats 4000000 in
set_option maxRecDepth 100000 in
theorem lc_12 {l : Launch} {g : GL} {p : Program} {e : Jvm.Env} {s : State} {m : MethodId} {below : List Frame} {meth : Method} {c : Code} {b Lx : Nat} {xs : Nat → Int32} {N : Nat} {Inv : SI → (Nat → Nat → Nat) → Prop} {σ : SI} {R : Nat → Nat → Nat} {L : Nat → Nat → Int64} {x4 : Int32} {cells slots : Nat} (C : Cx l g p s m meth c cL_law 7 RL) (hX : va_X b Lx xs s s.heap) (hbl : b < s.heap.size) (hbA : ¬ gA g b) (hI : Inv σ R) (hIS : InvOk Inv) (hAg : Ag_12 N Inv) (h1 : vp_in (x4 + 1) Lx) (hcs : cells + 4 ≤ 601024 ∧ slots + 24 ≤ 7293034) (kk : ∀ (σ' : SI) (R' : Nat → Nat → Nat) (L' : Nat → Nat → Int64) (H : Heap) (locs : List Loc) (ls : Array Slot), Inv σ' R' → S2 g s σ' R' L' H locs → lv_has ls 7 [(0, .ref b), (1, .ref (gb g + 1)), (2, .ref (gb g + 178)), (3, .ref (gb g + 194)), (4, .int x4)] → W p l e room_1 s m #[Value.ref b] below meth c H locs (cells + 4) (slots + 24) (lw_Z below #[Value.ref b] s) (F0 m 3423 ls [])) : ∀ (H : Heap) (locs : List Loc) (ls : Array Slot), S2 g s σ R L H locs → lv_has ls 7 [(0, .ref b), (1, .ref (gb g + 1)), (2, .ref (gb g + 178)), (3, .ref (gb g + 194)), (4, .int x4)] → W p l e room_1 s m #[Value.ref b] below meth c H locs (cells) (slots) (lw_Z below #[Value.ref b] s) (F0 m 712 ls []) := by
  intro H locs ls S hl
  obtain ⟨hc1, hc2⟩ := hcs
  have hx := C.1
  have hb := C.2.1
  have hSh := hIS σ R hI
  obtain ⟨res, σ1, b2, σ2, hm, hmod, hI2, hret, hthr⟩ := hAg σ R (xs (x4 + 1).toNatClampNeg) hI
  cases res with
  | inl v =>
    obtain ⟨ht, rfl⟩ := hret v rfl
    refine lv_aload_n hx hb dL_law_712 rfl (lv_at hl 1 rfl) ?_
    refine lv_aload_n hx hb dL_law_713 rfl (lv_at hl 0 rfl) ?_
    refine lv_iload hx hb dL_law_714 (lv_at hl 4 rfl) ?_
    refine lv_iconst (v := (1 : Int32)) hx hb dL_law_716 (by decide) ?_
    refine lv_iadd hx hb dL_law_717 ?_
    refine va_sld hx hb hX hbl hbA S.2 h1 dL_law_718 ?_
    refine lv_aload_n hx hb dL_law_719 rfl (lv_at hl 3 rfl) ?_
    refine v_callW C S (h_totalSize_ret (L := L) hm hSh ok_1 ok_194) ⟨cd_L_totalSize, ni_RL, ml_RL_216, st_L_totalSize⟩ ⟨by decide, by decide⟩ rfl ⟨by decide, by decide⟩ hl.1 rfl (Nat.le_of_ble_eq_true rfl) ⟨by show _ ≤ 601024; omega, by show _ ≤ 7293034; omega⟩ dL_law_720 (fun w σ' H locs hp S => ?_)
    obtain ⟨rfl, rfl⟩ := hp
    have S : S2 g s σ1 R (fun a j => if a = 194 ∧ j = 0 then v.toInt64 else L a j) H locs := S
    obtain ⟨L1, hL1, hLv⟩ : ∃ L1 : Nat → Nat → Int64, (fun a j => if a = 194 ∧ j = 0 then v.toInt64 else L a j) = L1 ∧ L1 194 0 = v.toInt64 := ⟨_, rfl, if_pos ⟨rfl, rfl⟩⟩
    rw [hL1] at S
    refine lv_istore (lv' := [(5, .int 0), (0, .ref b), (1, .ref (gb g + 1)), (2, .ref (gb g + 178)), (3, .ref (gb g + 194)), (4, .int x4)]) hx hb dL_law_723 hl (by decide) rfl (fun ls hl => ?_)
    refine lv_aload_n hx hb dL_law_725 rfl (lv_at hl 3 rfl) ?_
    refine lv_aload_n hx hb dL_law_726 rfl (lv_at hl 1 rfl) ?_
    refine lv_iload hx hb dL_law_727 (lv_at hl 5 rfl) ?_
    refine lv_iconst (v := (1 : Int32)) hx hb dL_law_729 (by decide) ?_
    refine lv_iadd hx hb dL_law_730 ?_
    refine va_sld hx hb hX hbl hbA S.2 h1 dL_law_731 ?_
    refine x_callVI C S KX12 ok_178 (ok_X12_totalSize (L := L1) hmod hSh ok_178) ⟨cd_X12_totalSize, ni_RX12, ml_RL_218, in_X12_totalSize, sl_X12_totalSize⟩ ⟨by decide, by decide⟩ rfl ⟨by decide, by decide⟩ hl.1 rfl (Nat.le_of_ble_eq_true rfl) ⟨by show _ ≤ 601024; omega, by show _ ≤ 7293034; omega⟩ dL_law_732 (fun H locs S => ?_)
    refine lv_istore (lv' := [(6, .int v), (5, .int 0), (0, .ref b), (1, .ref (gb g + 1)), (2, .ref (gb g + 178)), (3, .ref (gb g + 194)), (4, .int x4)]) hx hb dL_law_735 hl (by decide) rfl (fun ls hl => ?_)
    refine lv_aload_n hx hb dL_law_737 rfl (lv_at hl 4 rfl) ?_
    refine x_callVI C S KX12 ok_178 (ok_X12_thrown (L := L1) (thr_eq N R σ2 178) hSh ok_178) ⟨cd_X12_thrown, ni_RX12, ml_RL_178, in_X12_thrown, sl_X12_thrown⟩ ⟨by decide, by decide⟩ rfl ⟨by decide, by decide⟩ hl.1 rfl (Nat.le_of_ble_eq_true rfl) ⟨by show _ ≤ 601024; omega, by show _ ≤ 7293034; omega⟩ dL_law_738 (fun H locs S => ?_)
    refine lv_iload hx hb dL_law_741 (lv_at hl 1 rfl) ?_
    refine lv_icmp_eq (tgt := 748) hx hb dL_law_743 (by decide) (fun c1 => ?_) (fun c1 => absurd ht c1)
    refine lv_iload hx hb dL_law_748 (lv_at hl 1 rfl) ?_
    refine lv_if_ne (tgt := 765) hx hb dL_law_750 (by decide) (fun c2 => absurd rfl c2) (fun c2 => ?_)
    refine lv_aload_n hx hb dL_law_753 rfl (lv_at hl 5 rfl) ?_
    refine lv_iconst (v := (0 : Int32)) hx hb dL_law_754 (by decide) ?_
    refine x_lald C S ok_194 dL_law_755 ?_
    refine lv_iload hx hb dL_law_756 (lv_at hl 0 rfl) ?_
    refine lv_i2l hx hb dL_law_758 rfl ?_
    refine W.lcmp hx hb dL_law_759 ?_
    refine lv_if_eq (tgt := 765) hx hb dL_law_760 (by decide) (fun c4 => ?_) (fun c4 => absurd (by show lg_cmp (L1 194 0) _ = 0; rw [hLv]; exact lgc_self _) c4)
    refine lv_goto (tgt := 3423) hx hb dL_law_765 (by decide) ?_
    exact W.widen (k := cells + 4) (n := slots + 24) (by omega) (by omega) (kk σ2 R L1 H locs ls hI2 S (lv_sub hl [2, 3, 4, 5, 6] rfl))
  | inr q =>
    obtain ⟨rfl, ht⟩ := hthr q rfl
    refine lv_aload_n hx hb dL_law_712 rfl (lv_at hl 1 rfl) ?_
    refine lv_aload_n hx hb dL_law_713 rfl (lv_at hl 0 rfl) ?_
    refine lv_iload hx hb dL_law_714 (lv_at hl 4 rfl) ?_
    refine lv_iconst (v := (1 : Int32)) hx hb dL_law_716 (by decide) ?_
    refine lv_iadd hx hb dL_law_717 ?_
    refine va_sld hx hb hX hbl hbA S.2 h1 dL_law_718 ?_
    refine lv_aload_n hx hb dL_law_719 rfl (lv_at hl 3 rfl) ?_
    refine v_callW C S (h_totalSize_x0 (L := L) hm hSh ok_1 ok_194) ⟨cd_L_totalSize, ni_RL, ml_RL_216, st_L_totalSize⟩ ⟨by decide, by decide⟩ rfl ⟨by decide, by decide⟩ hl.1 rfl (Nat.le_of_ble_eq_true rfl) ⟨by show _ ≤ 601024; omega, by show _ ≤ 7293034; omega⟩ dL_law_720 (fun w σ' H locs hp S => ?_)
    obtain ⟨rfl, rfl⟩ := hp
    have S : S2 g s σ1 R L H locs := S
    refine lv_istore (lv' := [(5, .int 1), (0, .ref b), (1, .ref (gb g + 1)), (2, .ref (gb g + 178)), (3, .ref (gb g + 194)), (4, .int x4)]) hx hb dL_law_723 hl (by decide) rfl (fun ls hl => ?_)
    refine lv_aload_n hx hb dL_law_725 rfl (lv_at hl 3 rfl) ?_
    refine lv_aload_n hx hb dL_law_726 rfl (lv_at hl 1 rfl) ?_
    refine lv_iload hx hb dL_law_727 (lv_at hl 5 rfl) ?_
    refine lv_iconst (v := (1 : Int32)) hx hb dL_law_729 (by decide) ?_
    refine lv_iadd hx hb dL_law_730 ?_
    refine va_sld hx hb hX hbl hbA S.2 h1 dL_law_731 ?_
    refine x_callVI C S KX12 ok_178 (ok_X12_totalSize (L := L) hmod hSh ok_178) ⟨cd_X12_totalSize, ni_RX12, ml_RL_218, in_X12_totalSize, sl_X12_totalSize⟩ ⟨by decide, by decide⟩ rfl ⟨by decide, by decide⟩ hl.1 rfl (Nat.le_of_ble_eq_true rfl) ⟨by show _ ≤ 601024; omega, by show _ ≤ 7293034; omega⟩ dL_law_732 (fun H locs S => ?_)
    refine lv_istore (lv' := [(6, .int b2), (5, .int 1), (0, .ref b), (1, .ref (gb g + 1)), (2, .ref (gb g + 178)), (3, .ref (gb g + 194)), (4, .int x4)]) hx hb dL_law_735 hl (by decide) rfl (fun ls hl => ?_)
    refine lv_aload_n hx hb dL_law_737 rfl (lv_at hl 4 rfl) ?_
    refine x_callVI C S KX12 ok_178 (ok_X12_thrown (L := L) (thr_eq N R σ2 178) hSh ok_178) ⟨cd_X12_thrown, ni_RX12, ml_RL_178, in_X12_thrown, sl_X12_thrown⟩ ⟨by decide, by decide⟩ rfl ⟨by decide, by decide⟩ hl.1 rfl (Nat.le_of_ble_eq_true rfl) ⟨by show _ ≤ 601024; omega, by show _ ≤ 7293034; omega⟩ dL_law_738 (fun H locs S => ?_)
    refine lv_iload hx hb dL_law_741 (lv_at hl 1 rfl) ?_
    refine lv_icmp_eq (tgt := 748) hx hb dL_law_743 (by decide) (fun c1 => ?_) (fun c1 => absurd ht c1)
    refine lv_iload hx hb dL_law_748 (lv_at hl 1 rfl) ?_
    refine lv_if_ne (tgt := 765) hx hb dL_law_750 (by decide) (fun c2 => ?_) (fun c2 => absurd c2 (by decide))
    refine lv_goto (tgt := 3423) hx hb dL_law_765 (by decide) ?_
    exact W.widen (k := cells + 4) (n := slots + 24) (by omega) (by omega) (kk σ2 R L H locs ls hI2 S (lv_sub hl [2, 3, 4, 5, 6] rfl))
set_option maxHeartbeats 4000000 in
set_option maxRecDepth 100000 in
theorem lc_13 {l : Launch} {g : GL} {p : Program} {e : Jvm.Env} {s : State} {m : MethodId} {below : List Frame} {meth : Method} {c : Code} {b Lx : Nat} {xs : Nat → Int32} {N : Nat} {Inv : SI → (Nat → Nat → Nat) → Prop} {σ : SI} {R : Nat → Nat → Nat} {L : Nat → Nat → Int64} {x4 : Int32} {cells slots : Nat} (C : Cx l g p s m meth c cL_law 7 RL) (hX : va_X b Lx xs s s.heap) (hbl : b < s.heap.size) (hbA : ¬ gA g b) (hI : Inv σ R) (hIS : InvOk Inv) (hAg : Ag_13 N Inv) (h1 : vp_in (x4 + 1) Lx) (hcs : cells + 4 ≤ 601024 ∧ slots + 24 ≤ 7293034) (kk : ∀ (σ' : SI) (R' : Nat → Nat → Nat) (L' : Nat → Nat → Int64) (H : Heap) (locs : List Loc) (ls : Array Slot), Inv σ' R' → S2 g s σ' R' L' H locs → lv_has ls 7 [(0, .ref b), (1, .ref (gb g + 1)), (2, .ref (gb g + 178)), (3, .ref (gb g + 194)), (4, .int x4)] → W p l e room_1 s m #[Value.ref b] below meth c H locs (cells + 4) (slots + 24) (lw_Z below #[Value.ref b] s) (F0 m 3423 ls [])) : ∀ (H : Heap) (locs : List Loc) (ls : Array Slot), S2 g s σ R L H locs → lv_has ls 7 [(0, .ref b), (1, .ref (gb g + 1)), (2, .ref (gb g + 178)), (3, .ref (gb g + 194)), (4, .int x4)] → W p l e room_1 s m #[Value.ref b] below meth c H locs (cells) (slots) (lw_Z below #[Value.ref b] s) (F0 m 768 ls []) := by
  intro H locs ls S hl
  obtain ⟨hc1, hc2⟩ := hcs
  have hx := C.1
  have hb := C.2.1
  have hSh := hIS σ R hI
  obtain ⟨res, σ1, b2, σ2, hm, hmod, hI2, hret, hthr⟩ := hAg σ R (xs (x4 + 1).toNatClampNeg) hI
  cases res with
  | inl v =>
    obtain ⟨ht, rfl⟩ := hret v rfl
    refine lv_aload_n hx hb dL_law_768 rfl (lv_at hl 1 rfl) ?_
    refine lv_aload_n hx hb dL_law_769 rfl (lv_at hl 0 rfl) ?_
    refine lv_iload hx hb dL_law_770 (lv_at hl 4 rfl) ?_
    refine lv_iconst (v := (1 : Int32)) hx hb dL_law_772 (by decide) ?_
    refine lv_iadd hx hb dL_law_773 ?_
    refine va_sld hx hb hX hbl hbA S.2 h1 dL_law_774 ?_
    refine lv_aload_n hx hb dL_law_775 rfl (lv_at hl 3 rfl) ?_
    refine v_callW C S (h_delaySpan_ret (L := L) hm hSh ok_1 ok_194) ⟨cd_L_delaySpan, ni_RL, ml_RL_219, st_L_delaySpan⟩ ⟨by decide, by decide⟩ rfl ⟨by decide, by decide⟩ hl.1 rfl (Nat.le_of_ble_eq_true rfl) ⟨by show _ ≤ 601024; omega, by show _ ≤ 7293034; omega⟩ dL_law_776 (fun w σ' H locs hp S => ?_)
    obtain ⟨rfl, rfl⟩ := hp
    have S : S2 g s σ1 R (fun a j => if a = 194 ∧ j = 0 then v.toInt64 else L a j) H locs := S
    obtain ⟨L1, hL1, hLv⟩ : ∃ L1 : Nat → Nat → Int64, (fun a j => if a = 194 ∧ j = 0 then v.toInt64 else L a j) = L1 ∧ L1 194 0 = v.toInt64 := ⟨_, rfl, if_pos ⟨rfl, rfl⟩⟩
    rw [hL1] at S
    refine lv_istore (lv' := [(5, .int 0), (0, .ref b), (1, .ref (gb g + 1)), (2, .ref (gb g + 178)), (3, .ref (gb g + 194)), (4, .int x4)]) hx hb dL_law_779 hl (by decide) rfl (fun ls hl => ?_)
    refine lv_aload_n hx hb dL_law_781 rfl (lv_at hl 3 rfl) ?_
    refine lv_aload_n hx hb dL_law_782 rfl (lv_at hl 1 rfl) ?_
    refine lv_iload hx hb dL_law_783 (lv_at hl 5 rfl) ?_
    refine lv_iconst (v := (1 : Int32)) hx hb dL_law_785 (by decide) ?_
    refine lv_iadd hx hb dL_law_786 ?_
    refine va_sld hx hb hX hbl hbA S.2 h1 dL_law_787 ?_
    refine x_callVI C S KX12 ok_178 (ok_X12_delaySpan (L := L1) hmod hSh ok_178) ⟨cd_X12_delaySpan, ni_RX12, ml_RL_221, in_X12_delaySpan, sl_X12_delaySpan⟩ ⟨by decide, by decide⟩ rfl ⟨by decide, by decide⟩ hl.1 rfl (Nat.le_of_ble_eq_true rfl) ⟨by show _ ≤ 601024; omega, by show _ ≤ 7293034; omega⟩ dL_law_788 (fun H locs S => ?_)
    refine lv_istore (lv' := [(6, .int v), (5, .int 0), (0, .ref b), (1, .ref (gb g + 1)), (2, .ref (gb g + 178)), (3, .ref (gb g + 194)), (4, .int x4)]) hx hb dL_law_791 hl (by decide) rfl (fun ls hl => ?_)
    refine lv_aload_n hx hb dL_law_793 rfl (lv_at hl 4 rfl) ?_
    refine x_callVI C S KX12 ok_178 (ok_X12_thrown (L := L1) (thr_eq N R σ2 178) hSh ok_178) ⟨cd_X12_thrown, ni_RX12, ml_RL_178, in_X12_thrown, sl_X12_thrown⟩ ⟨by decide, by decide⟩ rfl ⟨by decide, by decide⟩ hl.1 rfl (Nat.le_of_ble_eq_true rfl) ⟨by show _ ≤ 601024; omega, by show _ ≤ 7293034; omega⟩ dL_law_794 (fun H locs S => ?_)
    refine lv_iload hx hb dL_law_797 (lv_at hl 1 rfl) ?_
    refine lv_icmp_eq (tgt := 804) hx hb dL_law_799 (by decide) (fun c1 => ?_) (fun c1 => absurd ht c1)
    refine lv_iload hx hb dL_law_804 (lv_at hl 1 rfl) ?_
    refine lv_if_ne (tgt := 821) hx hb dL_law_806 (by decide) (fun c2 => absurd rfl c2) (fun c2 => ?_)
    refine lv_aload_n hx hb dL_law_809 rfl (lv_at hl 5 rfl) ?_
    refine lv_iconst (v := (0 : Int32)) hx hb dL_law_810 (by decide) ?_
    refine x_lald C S ok_194 dL_law_811 ?_
    refine lv_iload hx hb dL_law_812 (lv_at hl 0 rfl) ?_
    refine lv_i2l hx hb dL_law_814 rfl ?_
    refine W.lcmp hx hb dL_law_815 ?_
    refine lv_if_eq (tgt := 821) hx hb dL_law_816 (by decide) (fun c4 => ?_) (fun c4 => absurd (by show lg_cmp (L1 194 0) _ = 0; rw [hLv]; exact lgc_self _) c4)
    refine lv_goto (tgt := 3423) hx hb dL_law_821 (by decide) ?_
    exact W.widen (k := cells + 4) (n := slots + 24) (by omega) (by omega) (kk σ2 R L1 H locs ls hI2 S (lv_sub hl [2, 3, 4, 5, 6] rfl))
  | inr q =>
    obtain ⟨rfl, ht⟩ := hthr q rfl
    refine lv_aload_n hx hb dL_law_768 rfl (lv_at hl 1 rfl) ?_
    refine lv_aload_n hx hb dL_law_769 rfl (lv_at hl 0 rfl) ?_
    refine lv_iload hx hb dL_law_770 (lv_at hl 4 rfl) ?_
    refine lv_iconst (v := (1 : Int32)) hx hb dL_law_772 (by decide) ?_
    refine lv_iadd hx hb dL_law_773 ?_
    refine va_sld hx hb hX hbl hbA S.2 h1 dL_law_774 ?_
    refine lv_aload_n hx hb dL_law_775 rfl (lv_at hl 3 rfl) ?_
    refine v_callW C S (h_delaySpan_x0 (L := L) hm hSh ok_1 ok_194) ⟨cd_L_delaySpan, ni_RL, ml_RL_219, st_L_delaySpan⟩ ⟨by decide, by decide⟩ rfl ⟨by decide, by decide⟩ hl.1 rfl (Nat.le_of_ble_eq_true rfl) ⟨by show _ ≤ 601024; omega, by show _ ≤ 7293034; omega⟩ dL_law_776 (fun w σ' H locs hp S => ?_)
    obtain ⟨rfl, rfl⟩ := hp
    have S : S2 g s σ1 R L H locs := S
    refine lv_istore (lv' := [(5, .int 1), (0, .ref b), (1, .ref (gb g + 1)), (2, .ref (gb g + 178)), (3, .ref (gb g + 194)), (4, .int x4)]) hx hb dL_law_779 hl (by decide) rfl (fun ls hl => ?_)
    refine lv_aload_n hx hb dL_law_781 rfl (lv_at hl 3 rfl) ?_
    refine lv_aload_n hx hb dL_law_782 rfl (lv_at hl 1 rfl) ?_
    refine lv_iload hx hb dL_law_783 (lv_at hl 5 rfl) ?_
    refine lv_iconst (v := (1 : Int32)) hx hb dL_law_785 (by decide) ?_
    refine lv_iadd hx hb dL_law_786 ?_
    refine va_sld hx hb hX hbl hbA S.2 h1 dL_law_787 ?_
    refine x_callVI C S KX12 ok_178 (ok_X12_delaySpan (L := L) hmod hSh ok_178) ⟨cd_X12_delaySpan, ni_RX12, ml_RL_221, in_X12_delaySpan, sl_X12_delaySpan⟩ ⟨by decide, by decide⟩ rfl ⟨by decide, by decide⟩ hl.1 rfl (Nat.le_of_ble_eq_true rfl) ⟨by show _ ≤ 601024; omega, by show _ ≤ 7293034; omega⟩ dL_law_788 (fun H locs S => ?_)
    refine lv_istore (lv' := [(6, .int b2), (5, .int 1), (0, .ref b), (1, .ref (gb g + 1)), (2, .ref (gb g + 178)), (3, .ref (gb g + 194)), (4, .int x4)]) hx hb dL_law_791 hl (by decide) rfl (fun ls hl => ?_)
    refine lv_aload_n hx hb dL_law_793 rfl (lv_at hl 4 rfl) ?_
    refine x_callVI C S KX12 ok_178 (ok_X12_thrown (L := L) (thr_eq N R σ2 178) hSh ok_178) ⟨cd_X12_thrown, ni_RX12, ml_RL_178, in_X12_thrown, sl_X12_thrown⟩ ⟨by decide, by decide⟩ rfl ⟨by decide, by decide⟩ hl.1 rfl (Nat.le_of_ble_eq_true rfl) ⟨by show _ ≤ 601024; omega, by show _ ≤ 7293034; omega⟩ dL_law_794 (fun H locs S => ?_)
    refine lv_iload hx hb dL_law_797 (lv_at hl 1 rfl) ?_
    refine lv_icmp_eq (tgt := 804) hx hb dL_law_799 (by decide) (fun c1 => ?_) (fun c1 => absurd ht c1)
    refine lv_iload hx hb dL_law_804 (lv_at hl 1 rfl) ?_
    refine lv_if_ne (tgt := 821) hx hb dL_law_806 (by decide) (fun c2 => ?_) (fun c2 => absurd c2 (by decide))
    refine lv_goto (tgt := 3423) hx hb dL_law_821 (by decide) ?_
    exact W.widen (k := cells + 4) (n := slots + 24) (by omega) (by omega) (kk σ2 R L H locs ls hI2 S (lv_sub hl [2, 3, 4, 5, 6] rfl))
set_option maxHeartbeats 4000000 in
set_option maxRecDepth 100000 in
theorem lc_14 {l : Launch} {g : GL} {p : Program} {e : Jvm.Env} {s : State} {m : MethodId} {below : List Frame} {meth : Method} {c : Code} {b Lx : Nat} {xs : Nat → Int32} {N : Nat} {Inv : SI → (Nat → Nat → Nat) → Prop} {σ : SI} {R : Nat → Nat → Nat} {L : Nat → Nat → Int64} {x4 : Int32} {cells slots : Nat} (C : Cx l g p s m meth c cL_law 7 RL) (hX : va_X b Lx xs s s.heap) (hbl : b < s.heap.size) (hbA : ¬ gA g b) (hI : Inv σ R) (hIS : InvOk Inv) (hAg : Ag_14 N Inv) (h1 : vp_in (x4 + 1) Lx) (hcs : cells + 4 ≤ 601024 ∧ slots + 24 ≤ 7293034) (kk : ∀ (σ' : SI) (R' : Nat → Nat → Nat) (L' : Nat → Nat → Int64) (H : Heap) (locs : List Loc) (ls : Array Slot), Inv σ' R' → S2 g s σ' R' L' H locs → lv_has ls 7 [(0, .ref b), (1, .ref (gb g + 1)), (2, .ref (gb g + 178)), (3, .ref (gb g + 194)), (4, .int x4)] → W p l e room_1 s m #[Value.ref b] below meth c H locs (cells + 4) (slots + 24) (lw_Z below #[Value.ref b] s) (F0 m 3423 ls [])) : ∀ (H : Heap) (locs : List Loc) (ls : Array Slot), S2 g s σ R L H locs → lv_has ls 7 [(0, .ref b), (1, .ref (gb g + 1)), (2, .ref (gb g + 178)), (3, .ref (gb g + 194)), (4, .int x4)] → W p l e room_1 s m #[Value.ref b] below meth c H locs (cells) (slots) (lw_Z below #[Value.ref b] s) (F0 m 824 ls []) := by
  intro H locs ls S hl
  obtain ⟨hc1, hc2⟩ := hcs
  have hx := C.1
  have hb := C.2.1
  have hSh := hIS σ R hI
  obtain ⟨res, σ1, b2, σ2, hm, hmod, hI2, hret, hthr⟩ := hAg σ R (xs (x4 + 1).toNatClampNeg) hI
  cases res with
  | inl v =>
    obtain ⟨ht, rfl⟩ := hret v rfl
    refine lv_aload_n hx hb dL_law_824 rfl (lv_at hl 1 rfl) ?_
    refine lv_aload_n hx hb dL_law_825 rfl (lv_at hl 0 rfl) ?_
    refine lv_iload hx hb dL_law_826 (lv_at hl 4 rfl) ?_
    refine lv_iconst (v := (1 : Int32)) hx hb dL_law_828 (by decide) ?_
    refine lv_iadd hx hb dL_law_829 ?_
    refine va_sld hx hb hX hbl hbA S.2 h1 dL_law_830 ?_
    refine lv_aload_n hx hb dL_law_831 rfl (lv_at hl 3 rfl) ?_
    refine v_callW C S (h_windowSize_ret (L := L) hm hSh ok_1 ok_194) ⟨cd_L_windowSize, ni_RL, ml_RL_222, st_L_windowSize⟩ ⟨by decide, by decide⟩ rfl ⟨by decide, by decide⟩ hl.1 rfl (Nat.le_of_ble_eq_true rfl) ⟨by show _ ≤ 601024; omega, by show _ ≤ 7293034; omega⟩ dL_law_832 (fun w σ' H locs hp S => ?_)
    obtain ⟨rfl, rfl⟩ := hp
    have S : S2 g s σ1 R (fun a j => if a = 194 ∧ j = 0 then v.toInt64 else L a j) H locs := S
    obtain ⟨L1, hL1, hLv⟩ : ∃ L1 : Nat → Nat → Int64, (fun a j => if a = 194 ∧ j = 0 then v.toInt64 else L a j) = L1 ∧ L1 194 0 = v.toInt64 := ⟨_, rfl, if_pos ⟨rfl, rfl⟩⟩
    rw [hL1] at S
    refine lv_istore (lv' := [(5, .int 0), (0, .ref b), (1, .ref (gb g + 1)), (2, .ref (gb g + 178)), (3, .ref (gb g + 194)), (4, .int x4)]) hx hb dL_law_835 hl (by decide) rfl (fun ls hl => ?_)
    refine lv_aload_n hx hb dL_law_837 rfl (lv_at hl 3 rfl) ?_
    refine lv_aload_n hx hb dL_law_838 rfl (lv_at hl 1 rfl) ?_
    refine lv_iload hx hb dL_law_839 (lv_at hl 5 rfl) ?_
    refine lv_iconst (v := (1 : Int32)) hx hb dL_law_841 (by decide) ?_
    refine lv_iadd hx hb dL_law_842 ?_
    refine va_sld hx hb hX hbl hbA S.2 h1 dL_law_843 ?_
    refine x_callVI C S KX12 ok_178 (ok_X12_windowSize (L := L1) hmod hSh ok_178) ⟨cd_X12_windowSize, ni_RX12, ml_RL_224, in_X12_windowSize, sl_X12_windowSize⟩ ⟨by decide, by decide⟩ rfl ⟨by decide, by decide⟩ hl.1 rfl (Nat.le_of_ble_eq_true rfl) ⟨by show _ ≤ 601024; omega, by show _ ≤ 7293034; omega⟩ dL_law_844 (fun H locs S => ?_)
    refine lv_istore (lv' := [(6, .int v), (5, .int 0), (0, .ref b), (1, .ref (gb g + 1)), (2, .ref (gb g + 178)), (3, .ref (gb g + 194)), (4, .int x4)]) hx hb dL_law_847 hl (by decide) rfl (fun ls hl => ?_)
    refine lv_aload_n hx hb dL_law_849 rfl (lv_at hl 4 rfl) ?_
    refine x_callVI C S KX12 ok_178 (ok_X12_thrown (L := L1) (thr_eq N R σ2 178) hSh ok_178) ⟨cd_X12_thrown, ni_RX12, ml_RL_178, in_X12_thrown, sl_X12_thrown⟩ ⟨by decide, by decide⟩ rfl ⟨by decide, by decide⟩ hl.1 rfl (Nat.le_of_ble_eq_true rfl) ⟨by show _ ≤ 601024; omega, by show _ ≤ 7293034; omega⟩ dL_law_850 (fun H locs S => ?_)
    refine lv_iload hx hb dL_law_853 (lv_at hl 1 rfl) ?_
    refine lv_icmp_eq (tgt := 860) hx hb dL_law_855 (by decide) (fun c1 => ?_) (fun c1 => absurd ht c1)
    refine lv_iload hx hb dL_law_860 (lv_at hl 1 rfl) ?_
    refine lv_if_ne (tgt := 877) hx hb dL_law_862 (by decide) (fun c2 => absurd rfl c2) (fun c2 => ?_)
    refine lv_aload_n hx hb dL_law_865 rfl (lv_at hl 5 rfl) ?_
    refine lv_iconst (v := (0 : Int32)) hx hb dL_law_866 (by decide) ?_
    refine x_lald C S ok_194 dL_law_867 ?_
    refine lv_iload hx hb dL_law_868 (lv_at hl 0 rfl) ?_
    refine lv_i2l hx hb dL_law_870 rfl ?_
    refine W.lcmp hx hb dL_law_871 ?_
    refine lv_if_eq (tgt := 877) hx hb dL_law_872 (by decide) (fun c4 => ?_) (fun c4 => absurd (by show lg_cmp (L1 194 0) _ = 0; rw [hLv]; exact lgc_self _) c4)
    refine lv_goto (tgt := 3423) hx hb dL_law_877 (by decide) ?_
    exact W.widen (k := cells + 4) (n := slots + 24) (by omega) (by omega) (kk σ2 R L1 H locs ls hI2 S (lv_sub hl [2, 3, 4, 5, 6] rfl))
  | inr q =>
    obtain ⟨rfl, ht⟩ := hthr q rfl
    refine lv_aload_n hx hb dL_law_824 rfl (lv_at hl 1 rfl) ?_
    refine lv_aload_n hx hb dL_law_825 rfl (lv_at hl 0 rfl) ?_
    refine lv_iload hx hb dL_law_826 (lv_at hl 4 rfl) ?_
    refine lv_iconst (v := (1 : Int32)) hx hb dL_law_828 (by decide) ?_
    refine lv_iadd hx hb dL_law_829 ?_
    refine va_sld hx hb hX hbl hbA S.2 h1 dL_law_830 ?_
    refine lv_aload_n hx hb dL_law_831 rfl (lv_at hl 3 rfl) ?_
    refine v_callW C S (h_windowSize_x0 (L := L) hm hSh ok_1 ok_194) ⟨cd_L_windowSize, ni_RL, ml_RL_222, st_L_windowSize⟩ ⟨by decide, by decide⟩ rfl ⟨by decide, by decide⟩ hl.1 rfl (Nat.le_of_ble_eq_true rfl) ⟨by show _ ≤ 601024; omega, by show _ ≤ 7293034; omega⟩ dL_law_832 (fun w σ' H locs hp S => ?_)
    obtain ⟨rfl, rfl⟩ := hp
    have S : S2 g s σ1 R L H locs := S
    refine lv_istore (lv' := [(5, .int 1), (0, .ref b), (1, .ref (gb g + 1)), (2, .ref (gb g + 178)), (3, .ref (gb g + 194)), (4, .int x4)]) hx hb dL_law_835 hl (by decide) rfl (fun ls hl => ?_)
    refine lv_aload_n hx hb dL_law_837 rfl (lv_at hl 3 rfl) ?_
    refine lv_aload_n hx hb dL_law_838 rfl (lv_at hl 1 rfl) ?_
    refine lv_iload hx hb dL_law_839 (lv_at hl 5 rfl) ?_
    refine lv_iconst (v := (1 : Int32)) hx hb dL_law_841 (by decide) ?_
    refine lv_iadd hx hb dL_law_842 ?_
    refine va_sld hx hb hX hbl hbA S.2 h1 dL_law_843 ?_
    refine x_callVI C S KX12 ok_178 (ok_X12_windowSize (L := L) hmod hSh ok_178) ⟨cd_X12_windowSize, ni_RX12, ml_RL_224, in_X12_windowSize, sl_X12_windowSize⟩ ⟨by decide, by decide⟩ rfl ⟨by decide, by decide⟩ hl.1 rfl (Nat.le_of_ble_eq_true rfl) ⟨by show _ ≤ 601024; omega, by show _ ≤ 7293034; omega⟩ dL_law_844 (fun H locs S => ?_)
    refine lv_istore (lv' := [(6, .int b2), (5, .int 1), (0, .ref b), (1, .ref (gb g + 1)), (2, .ref (gb g + 178)), (3, .ref (gb g + 194)), (4, .int x4)]) hx hb dL_law_847 hl (by decide) rfl (fun ls hl => ?_)
    refine lv_aload_n hx hb dL_law_849 rfl (lv_at hl 4 rfl) ?_
    refine x_callVI C S KX12 ok_178 (ok_X12_thrown (L := L) (thr_eq N R σ2 178) hSh ok_178) ⟨cd_X12_thrown, ni_RX12, ml_RL_178, in_X12_thrown, sl_X12_thrown⟩ ⟨by decide, by decide⟩ rfl ⟨by decide, by decide⟩ hl.1 rfl (Nat.le_of_ble_eq_true rfl) ⟨by show _ ≤ 601024; omega, by show _ ≤ 7293034; omega⟩ dL_law_850 (fun H locs S => ?_)
    refine lv_iload hx hb dL_law_853 (lv_at hl 1 rfl) ?_
    refine lv_icmp_eq (tgt := 860) hx hb dL_law_855 (by decide) (fun c1 => ?_) (fun c1 => absurd ht c1)
    refine lv_iload hx hb dL_law_860 (lv_at hl 1 rfl) ?_
    refine lv_if_ne (tgt := 877) hx hb dL_law_862 (by decide) (fun c2 => ?_) (fun c2 => absurd c2 (by decide))
    refine lv_goto (tgt := 3423) hx hb dL_law_877 (by decide) ?_
    exact W.widen (k := cells + 4) (n := slots + 24) (by omega) (by omega) (kk σ2 R L H locs ls hI2 S (lv_sub hl [2, 3, 4, 5, 6] rfl))
set_option maxHeartbeats 4000000 in
set_option maxRecDepth 100000 in
theorem lc_15 {l : Launch} {g : GL} {p : Program} {e : Jvm.Env} {s : State} {m : MethodId} {below : List Frame} {meth : Method} {c : Code} {b Lx : Nat} {xs : Nat → Int32} {N : Nat} {Inv : SI → (Nat → Nat → Nat) → Prop} {σ : SI} {R : Nat → Nat → Nat} {L : Nat → Nat → Int64} {x4 : Int32} {cells slots : Nat} (C : Cx l g p s m meth c cL_law 7 RL) (hX : va_X b Lx xs s s.heap) (hbl : b < s.heap.size) (hbA : ¬ gA g b) (hI : Inv σ R) (hIS : InvOk Inv) (hAg : Ag_15 N Inv) (h1 : vp_in (x4 + 1) Lx) (hcs : cells + 4 ≤ 601024 ∧ slots + 24 ≤ 7293034) (kk : ∀ (σ' : SI) (R' : Nat → Nat → Nat) (L' : Nat → Nat → Int64) (H : Heap) (locs : List Loc) (ls : Array Slot), Inv σ' R' → S2 g s σ' R' L' H locs → lv_has ls 7 [(0, .ref b), (1, .ref (gb g + 1)), (2, .ref (gb g + 178)), (3, .ref (gb g + 194)), (4, .int x4)] → W p l e room_1 s m #[Value.ref b] below meth c H locs (cells + 4) (slots + 24) (lw_Z below #[Value.ref b] s) (F0 m 3423 ls [])) : ∀ (H : Heap) (locs : List Loc) (ls : Array Slot), S2 g s σ R L H locs → lv_has ls 7 [(0, .ref b), (1, .ref (gb g + 1)), (2, .ref (gb g + 178)), (3, .ref (gb g + 194)), (4, .int x4)] → W p l e room_1 s m #[Value.ref b] below meth c H locs (cells) (slots) (lw_Z below #[Value.ref b] s) (F0 m 880 ls []) := by
  intro H locs ls S hl
  obtain ⟨hc1, hc2⟩ := hcs
  have hx := C.1
  have hb := C.2.1
  have hSh := hIS σ R hI
  obtain ⟨res, σ1, b2, σ2, hm, hmod, hI2, hret, hthr⟩ := hAg σ R (xs (x4 + 1).toNatClampNeg) hI
  cases res with
  | inl v =>
    obtain ⟨ht, rfl⟩ := hret v rfl
    refine lv_aload_n hx hb dL_law_880 rfl (lv_at hl 1 rfl) ?_
    refine lv_aload_n hx hb dL_law_881 rfl (lv_at hl 0 rfl) ?_
    refine lv_iload hx hb dL_law_882 (lv_at hl 4 rfl) ?_
    refine lv_iconst (v := (1 : Int32)) hx hb dL_law_884 (by decide) ?_
    refine lv_iadd hx hb dL_law_885 ?_
    refine va_sld hx hb hX hbl hbA S.2 h1 dL_law_886 ?_
    refine lv_aload_n hx hb dL_law_887 rfl (lv_at hl 3 rfl) ?_
    refine v_callW C S (h_windowStart_ret (L := L) hm hSh ok_1 ok_194) ⟨cd_L_windowStart, ni_RL, ml_RL_225, st_L_windowStart⟩ ⟨by decide, by decide⟩ rfl ⟨by decide, by decide⟩ hl.1 rfl (Nat.le_of_ble_eq_true rfl) ⟨by show _ ≤ 601024; omega, by show _ ≤ 7293034; omega⟩ dL_law_888 (fun w σ' H locs hp S => ?_)
    obtain ⟨rfl, rfl⟩ := hp
    have S : S2 g s σ1 R (fun a j => if a = 194 ∧ j = 0 then v.toInt64 else L a j) H locs := S
    obtain ⟨L1, hL1, hLv⟩ : ∃ L1 : Nat → Nat → Int64, (fun a j => if a = 194 ∧ j = 0 then v.toInt64 else L a j) = L1 ∧ L1 194 0 = v.toInt64 := ⟨_, rfl, if_pos ⟨rfl, rfl⟩⟩
    rw [hL1] at S
    refine lv_istore (lv' := [(5, .int 0), (0, .ref b), (1, .ref (gb g + 1)), (2, .ref (gb g + 178)), (3, .ref (gb g + 194)), (4, .int x4)]) hx hb dL_law_891 hl (by decide) rfl (fun ls hl => ?_)
    refine lv_aload_n hx hb dL_law_893 rfl (lv_at hl 3 rfl) ?_
    refine lv_aload_n hx hb dL_law_894 rfl (lv_at hl 1 rfl) ?_
    refine lv_iload hx hb dL_law_895 (lv_at hl 5 rfl) ?_
    refine lv_iconst (v := (1 : Int32)) hx hb dL_law_897 (by decide) ?_
    refine lv_iadd hx hb dL_law_898 ?_
    refine va_sld hx hb hX hbl hbA S.2 h1 dL_law_899 ?_
    refine x_callVI C S KX12 ok_178 (ok_X12_windowStart (L := L1) hmod hSh ok_178) ⟨cd_X12_windowStart, ni_RX12, ml_RL_227, in_X12_windowStart, sl_X12_windowStart⟩ ⟨by decide, by decide⟩ rfl ⟨by decide, by decide⟩ hl.1 rfl (Nat.le_of_ble_eq_true rfl) ⟨by show _ ≤ 601024; omega, by show _ ≤ 7293034; omega⟩ dL_law_900 (fun H locs S => ?_)
    refine lv_istore (lv' := [(6, .int v), (5, .int 0), (0, .ref b), (1, .ref (gb g + 1)), (2, .ref (gb g + 178)), (3, .ref (gb g + 194)), (4, .int x4)]) hx hb dL_law_903 hl (by decide) rfl (fun ls hl => ?_)
    refine lv_aload_n hx hb dL_law_905 rfl (lv_at hl 4 rfl) ?_
    refine x_callVI C S KX12 ok_178 (ok_X12_thrown (L := L1) (thr_eq N R σ2 178) hSh ok_178) ⟨cd_X12_thrown, ni_RX12, ml_RL_178, in_X12_thrown, sl_X12_thrown⟩ ⟨by decide, by decide⟩ rfl ⟨by decide, by decide⟩ hl.1 rfl (Nat.le_of_ble_eq_true rfl) ⟨by show _ ≤ 601024; omega, by show _ ≤ 7293034; omega⟩ dL_law_906 (fun H locs S => ?_)
    refine lv_iload hx hb dL_law_909 (lv_at hl 1 rfl) ?_
    refine lv_icmp_eq (tgt := 916) hx hb dL_law_911 (by decide) (fun c1 => ?_) (fun c1 => absurd ht c1)
    refine lv_iload hx hb dL_law_916 (lv_at hl 1 rfl) ?_
    refine lv_if_ne (tgt := 933) hx hb dL_law_918 (by decide) (fun c2 => absurd rfl c2) (fun c2 => ?_)
    refine lv_aload_n hx hb dL_law_921 rfl (lv_at hl 5 rfl) ?_
    refine lv_iconst (v := (0 : Int32)) hx hb dL_law_922 (by decide) ?_
    refine x_lald C S ok_194 dL_law_923 ?_
    refine lv_iload hx hb dL_law_924 (lv_at hl 0 rfl) ?_
    refine lv_i2l hx hb dL_law_926 rfl ?_
    refine W.lcmp hx hb dL_law_927 ?_
    refine lv_if_eq (tgt := 933) hx hb dL_law_928 (by decide) (fun c4 => ?_) (fun c4 => absurd (by show lg_cmp (L1 194 0) _ = 0; rw [hLv]; exact lgc_self _) c4)
    refine lv_goto (tgt := 3423) hx hb dL_law_933 (by decide) ?_
    exact W.widen (k := cells + 4) (n := slots + 24) (by omega) (by omega) (kk σ2 R L1 H locs ls hI2 S (lv_sub hl [2, 3, 4, 5, 6] rfl))
  | inr q =>
    obtain ⟨rfl, ht⟩ := hthr q rfl
    refine lv_aload_n hx hb dL_law_880 rfl (lv_at hl 1 rfl) ?_
    refine lv_aload_n hx hb dL_law_881 rfl (lv_at hl 0 rfl) ?_
    refine lv_iload hx hb dL_law_882 (lv_at hl 4 rfl) ?_
    refine lv_iconst (v := (1 : Int32)) hx hb dL_law_884 (by decide) ?_
    refine lv_iadd hx hb dL_law_885 ?_
    refine va_sld hx hb hX hbl hbA S.2 h1 dL_law_886 ?_
    refine lv_aload_n hx hb dL_law_887 rfl (lv_at hl 3 rfl) ?_
    refine v_callW C S (h_windowStart_x0 (L := L) hm hSh ok_1 ok_194) ⟨cd_L_windowStart, ni_RL, ml_RL_225, st_L_windowStart⟩ ⟨by decide, by decide⟩ rfl ⟨by decide, by decide⟩ hl.1 rfl (Nat.le_of_ble_eq_true rfl) ⟨by show _ ≤ 601024; omega, by show _ ≤ 7293034; omega⟩ dL_law_888 (fun w σ' H locs hp S => ?_)
    obtain ⟨rfl, rfl⟩ := hp
    have S : S2 g s σ1 R L H locs := S
    refine lv_istore (lv' := [(5, .int 1), (0, .ref b), (1, .ref (gb g + 1)), (2, .ref (gb g + 178)), (3, .ref (gb g + 194)), (4, .int x4)]) hx hb dL_law_891 hl (by decide) rfl (fun ls hl => ?_)
    refine lv_aload_n hx hb dL_law_893 rfl (lv_at hl 3 rfl) ?_
    refine lv_aload_n hx hb dL_law_894 rfl (lv_at hl 1 rfl) ?_
    refine lv_iload hx hb dL_law_895 (lv_at hl 5 rfl) ?_
    refine lv_iconst (v := (1 : Int32)) hx hb dL_law_897 (by decide) ?_
    refine lv_iadd hx hb dL_law_898 ?_
    refine va_sld hx hb hX hbl hbA S.2 h1 dL_law_899 ?_
    refine x_callVI C S KX12 ok_178 (ok_X12_windowStart (L := L) hmod hSh ok_178) ⟨cd_X12_windowStart, ni_RX12, ml_RL_227, in_X12_windowStart, sl_X12_windowStart⟩ ⟨by decide, by decide⟩ rfl ⟨by decide, by decide⟩ hl.1 rfl (Nat.le_of_ble_eq_true rfl) ⟨by show _ ≤ 601024; omega, by show _ ≤ 7293034; omega⟩ dL_law_900 (fun H locs S => ?_)
    refine lv_istore (lv' := [(6, .int b2), (5, .int 1), (0, .ref b), (1, .ref (gb g + 1)), (2, .ref (gb g + 178)), (3, .ref (gb g + 194)), (4, .int x4)]) hx hb dL_law_903 hl (by decide) rfl (fun ls hl => ?_)
    refine lv_aload_n hx hb dL_law_905 rfl (lv_at hl 4 rfl) ?_
    refine x_callVI C S KX12 ok_178 (ok_X12_thrown (L := L) (thr_eq N R σ2 178) hSh ok_178) ⟨cd_X12_thrown, ni_RX12, ml_RL_178, in_X12_thrown, sl_X12_thrown⟩ ⟨by decide, by decide⟩ rfl ⟨by decide, by decide⟩ hl.1 rfl (Nat.le_of_ble_eq_true rfl) ⟨by show _ ≤ 601024; omega, by show _ ≤ 7293034; omega⟩ dL_law_906 (fun H locs S => ?_)
    refine lv_iload hx hb dL_law_909 (lv_at hl 1 rfl) ?_
    refine lv_icmp_eq (tgt := 916) hx hb dL_law_911 (by decide) (fun c1 => ?_) (fun c1 => absurd ht c1)
    refine lv_iload hx hb dL_law_916 (lv_at hl 1 rfl) ?_
    refine lv_if_ne (tgt := 933) hx hb dL_law_918 (by decide) (fun c2 => ?_) (fun c2 => absurd c2 (by decide))
    refine lv_goto (tgt := 3423) hx hb dL_law_933 (by decide) ?_
    exact W.widen (k := cells + 4) (n := slots + 24) (by omega) (by omega) (kk σ2 R L H locs ls hI2 S (lv_sub hl [2, 3, 4, 5, 6] rfl))
