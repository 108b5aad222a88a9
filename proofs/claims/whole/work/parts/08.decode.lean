theorem dX10_init_366 : decode cX10_init 366 = .ok (.bipush 97, 2) := by decide +kernel
theorem dX10_init_368 : decode cX10_init 368 = .ok (.iastore, 1) := by decide +kernel
theorem dX10_init_369 : decode cX10_init 369 = .ok (.dup, 1) := by decide +kernel
theorem dX10_init_370 : decode cX10_init 370 = .ok (.iconst 2, 1) := by decide +kernel
theorem dX10_init_371 : decode cX10_init 371 = .ok (.bipush 115, 2) := by decide +kernel
theorem dX10_init_373 : decode cX10_init 373 = .ok (.iastore, 1) := by decide +kernel
theorem dX10_init_374 : decode cX10_init 374 = .ok (.dup, 1) := by decide +kernel
theorem dX10_init_375 : decode cX10_init 375 = .ok (.iconst 3, 1) := by decide +kernel
theorem dX10_init_376 : decode cX10_init 376 = .ok (.bipush 116, 2) := by decide +kernel
theorem dX10_init_378 : decode cX10_init 378 = .ok (.iastore, 1) := by decide +kernel
theorem dX10_init_379 : decode cX10_init 379 = .ok (.dup, 1) := by decide +kernel
theorem dX10_init_380 : decode cX10_init 380 = .ok (.iconst 4, 1) := by decide +kernel
theorem dX10_init_381 : decode cX10_init 381 = .ok (.bipush 79, 2) := by decide +kernel
theorem dX10_init_383 : decode cX10_init 383 = .ok (.iastore, 1) := by decide +kernel
theorem dX10_init_384 : decode cX10_init 384 = .ok (.dup, 1) := by decide +kernel
theorem dX10_init_385 : decode cX10_init 385 = .ok (.iconst 5, 1) := by decide +kernel
theorem dX10_init_386 : decode cX10_init 386 = .ok (.bipush 112, 2) := by decide +kernel
theorem dX10_init_388 : decode cX10_init 388 = .ok (.iastore, 1) := by decide +kernel
theorem dX10_init_389 : decode cX10_init 389 = .ok (.dup, 1) := by decide +kernel
theorem dX10_init_390 : decode cX10_init 390 = .ok (.bipush 6, 2) := by decide +kernel
theorem dX10_init_392 : decode cX10_init 392 = .ok (.bipush 101, 2) := by decide +kernel
theorem dX10_init_394 : decode cX10_init 394 = .ok (.iastore, 1) := by decide +kernel
theorem dX10_init_395 : decode cX10_init 395 = .ok (.dup, 1) := by decide +kernel
theorem dX10_init_396 : decode cX10_init 396 = .ok (.bipush 7, 2) := by decide +kernel
theorem dX10_init_398 : decode cX10_init 398 = .ok (.bipush 110, 2) := by decide +kernel
theorem dX10_init_400 : decode cX10_init 400 = .ok (.iastore, 1) := by decide +kernel
theorem dX10_init_401 : decode cX10_init 401 = .ok (.dup, 1) := by decide +kernel
theorem dX10_init_402 : decode cX10_init 402 = .ok (.bipush 8, 2) := by decide +kernel
theorem dX10_init_404 : decode cX10_init 404 = .ok (.bipush 101, 2) := by decide +kernel
theorem dX10_init_406 : decode cX10_init 406 = .ok (.iastore, 1) := by decide +kernel
theorem dX10_init_407 : decode cX10_init 407 = .ok (.dup, 1) := by decide +kernel
theorem dX10_init_408 : decode cX10_init 408 = .ok (.bipush 9, 2) := by decide +kernel
theorem dX10_init_410 : decode cX10_init 410 = .ok (.bipush 100, 2) := by decide +kernel
theorem dX10_init_412 : decode cX10_init 412 = .ok (.iastore, 1) := by decide +kernel
theorem dX10_init_413 : decode cX10_init 413 = .ok (.dup, 1) := by decide +kernel
theorem dX10_init_414 : decode cX10_init 414 = .ok (.bipush 10, 2) := by decide +kernel
theorem dX10_init_416 : decode cX10_init 416 = .ok (.bipush 102, 2) := by decide +kernel
theorem dX10_init_418 : decode cX10_init 418 = .ok (.iastore, 1) := by decide +kernel
theorem dX10_init_419 : decode cX10_init 419 = .ok (.dup, 1) := by decide +kernel
theorem dX10_init_420 : decode cX10_init 420 = .ok (.bipush 11, 2) := by decide +kernel
theorem dX10_init_422 : decode cX10_init 422 = .ok (.bipush 105, 2) := by decide +kernel
theorem dX10_init_424 : decode cX10_init 424 = .ok (.iastore, 1) := by decide +kernel
theorem dX10_init_425 : decode cX10_init 425 = .ok (.dup, 1) := by decide +kernel
theorem dX10_init_426 : decode cX10_init 426 = .ok (.bipush 12, 2) := by decide +kernel
theorem dX10_init_428 : decode cX10_init 428 = .ok (.bipush 110, 2) := by decide +kernel
theorem dX10_init_430 : decode cX10_init 430 = .ok (.iastore, 1) := by decide +kernel
theorem dX10_init_431 : decode cX10_init 431 = .ok (.dup, 1) := by decide +kernel
theorem dX10_init_432 : decode cX10_init 432 = .ok (.bipush 13, 2) := by decide +kernel
theorem dX10_init_434 : decode cX10_init 434 = .ok (.bipush 100, 2) := by decide +kernel
theorem dX10_init_436 : decode cX10_init 436 = .ok (.iastore, 1) := by decide +kernel
theorem dX10_init_437 : decode cX10_init 437 = .ok (.dup, 1) := by decide +kernel
theorem dX10_init_438 : decode cX10_init 438 = .ok (.bipush 14, 2) := by decide +kernel
theorem dX10_init_440 : decode cX10_init 440 = .ok (.bipush 95, 2) := by decide +kernel
theorem dX10_init_442 : decode cX10_init 442 = .ok (.iastore, 1) := by decide +kernel
theorem dX10_init_443 : decode cX10_init 443 = .ok (.dup, 1) := by decide +kernel
theorem dX10_init_444 : decode cX10_init 444 = .ok (.bipush 15, 2) := by decide +kernel
theorem dX10_init_446 : decode cX10_init 446 = .ok (.bipush 79, 2) := by decide +kernel
theorem dX10_init_448 : decode cX10_init 448 = .ok (.iastore, 1) := by decide +kernel
theorem dX10_init_449 : decode cX10_init 449 = .ok (.dup, 1) := by decide +kernel
theorem dX10_init_450 : decode cX10_init 450 = .ok (.bipush 16, 2) := by decide +kernel
theorem dX10_init_452 : decode cX10_init 452 = .ok (.bipush 102, 2) := by decide +kernel
theorem dX10_init_454 : decode cX10_init 454 = .ok (.iastore, 1) := by decide +kernel
theorem dX10_init_455 : decode cX10_init 455 = .ok (.dup, 1) := by decide +kernel
theorem dX10_init_456 : decode cX10_init 456 = .ok (.bipush 17, 2) := by decide +kernel
theorem dX10_init_458 : decode cX10_init 458 = .ok (.bipush 112, 2) := by decide +kernel
theorem dX10_init_460 : decode cX10_init 460 = .ok (.iastore, 1) := by decide +kernel
theorem dX10_init_461 : decode cX10_init 461 = .ok (.dup, 1) := by decide +kernel
theorem dX10_init_462 : decode cX10_init 462 = .ok (.bipush 18, 2) := by decide +kernel
theorem dX10_init_464 : decode cX10_init 464 = .ok (.bipush 111, 2) := by decide +kernel
theorem dX10_init_466 : decode cX10_init 466 = .ok (.iastore, 1) := by decide +kernel
theorem dX10_init_467 : decode cX10_init 467 = .ok (.dup, 1) := by decide +kernel
theorem dX10_init_468 : decode cX10_init 468 = .ok (.bipush 19, 2) := by decide +kernel
theorem dX10_init_470 : decode cX10_init 470 = .ok (.bipush 111, 2) := by decide +kernel
theorem dX10_init_472 : decode cX10_init 472 = .ok (.iastore, 1) := by decide +kernel
theorem dX10_init_473 : decode cX10_init 473 = .ok (.dup, 1) := by decide +kernel
theorem dX10_init_474 : decode cX10_init 474 = .ok (.bipush 20, 2) := by decide +kernel
theorem dX10_init_476 : decode cX10_init 476 = .ok (.bipush 102, 2) := by decide +kernel
theorem dX10_init_478 : decode cX10_init 478 = .ok (.iastore, 1) := by decide +kernel
theorem dX10_init_479 : decode cX10_init 479 = .ok (.putfield 90, 3) := by decide +kernel
theorem dX10_init_482 : decode cX10_init 482 = .ok (.aload_n 0, 1) := by decide +kernel
theorem dX10_init_483 : decode cX10_init 483 = .ok (.bipush 6, 2) := by decide +kernel
theorem dX10_init_485 : decode cX10_init 485 = .ok (.newarray .int, 2) := by decide +kernel
theorem dX10_init_487 : decode cX10_init 487 = .ok (.dup, 1) := by decide +kernel
theorem dX10_init_488 : decode cX10_init 488 = .ok (.iconst 0, 1) := by decide +kernel
theorem dX10_init_489 : decode cX10_init 489 = .ok (.bipush 8, 2) := by decide +kernel
theorem dX10_init_491 : decode cX10_init 491 = .ok (.iastore, 1) := by decide +kernel
theorem dX10_init_492 : decode cX10_init 492 = .ok (.dup, 1) := by decide +kernel
theorem dX10_init_493 : decode cX10_init 493 = .ok (.iconst 1, 1) := by decide +kernel
theorem dX10_init_494 : decode cX10_init 494 = .ok (.bipush 9, 2) := by decide +kernel
theorem dX10_init_496 : decode cX10_init 496 = .ok (.iastore, 1) := by decide +kernel
theorem dX10_init_497 : decode cX10_init 497 = .ok (.dup, 1) := by decide +kernel
theorem dX10_init_498 : decode cX10_init 498 = .ok (.iconst 2, 1) := by decide +kernel
theorem dX10_init_499 : decode cX10_init 499 = .ok (.bipush 9, 2) := by decide +kernel
theorem dX10_init_501 : decode cX10_init 501 = .ok (.iastore, 1) := by decide +kernel
theorem dX10_init_502 : decode cX10_init 502 = .ok (.dup, 1) := by decide +kernel
theorem dX10_init_503 : decode cX10_init 503 = .ok (.iconst 3, 1) := by decide +kernel
theorem dX10_init_504 : decode cX10_init 504 = .ok (.bipush 10, 2) := by decide +kernel
theorem dX10_init_506 : decode cX10_init 506 = .ok (.iastore, 1) := by decide +kernel
theorem dX10_init_507 : decode cX10_init 507 = .ok (.dup, 1) := by decide +kernel
theorem dX10_init_508 : decode cX10_init 508 = .ok (.iconst 4, 1) := by decide +kernel
theorem dX10_init_509 : decode cX10_init 509 = .ok (.bipush 7, 2) := by decide +kernel
theorem dX10_init_511 : decode cX10_init 511 = .ok (.iastore, 1) := by decide +kernel
theorem dX10_init_512 : decode cX10_init 512 = .ok (.dup, 1) := by decide +kernel
theorem dX10_init_513 : decode cX10_init 513 = .ok (.iconst 5, 1) := by decide +kernel
theorem dX10_init_514 : decode cX10_init 514 = .ok (.iconst 4, 1) := by decide +kernel
theorem dX10_init_515 : decode cX10_init 515 = .ok (.iastore, 1) := by decide +kernel
theorem dX10_init_516 : decode cX10_init 516 = .ok (.putfield 93, 3) := by decide +kernel
theorem dX10_init_519 : decode cX10_init 519 = .ok (.aload_n 0, 1) := by decide +kernel
theorem dX10_init_520 : decode cX10_init 520 = .ok (.bipush 6, 2) := by decide +kernel
theorem dX10_init_522 : decode cX10_init 522 = .ok (.newarray .int, 2) := by decide +kernel
theorem dX10_init_524 : decode cX10_init 524 = .ok (.dup, 1) := by decide +kernel
theorem dX10_init_525 : decode cX10_init 525 = .ok (.iconst 0, 1) := by decide +kernel
theorem dX10_init_526 : decode cX10_init 526 = .ok (.iconst 0, 1) := by decide +kernel
theorem dX10_init_527 : decode cX10_init 527 = .ok (.iastore, 1) := by decide +kernel
theorem dX10_init_528 : decode cX10_init 528 = .ok (.dup, 1) := by decide +kernel
theorem dX10_init_529 : decode cX10_init 529 = .ok (.iconst 1, 1) := by decide +kernel
theorem dX10_init_530 : decode cX10_init 530 = .ok (.iconst 0, 1) := by decide +kernel
theorem dX10_init_531 : decode cX10_init 531 = .ok (.iastore, 1) := by decide +kernel
theorem dX10_init_532 : decode cX10_init 532 = .ok (.dup, 1) := by decide +kernel
theorem dX10_init_533 : decode cX10_init 533 = .ok (.iconst 2, 1) := by decide +kernel
theorem dX10_init_534 : decode cX10_init 534 = .ok (.iconst 1, 1) := by decide +kernel
theorem dX10_init_535 : decode cX10_init 535 = .ok (.iastore, 1) := by decide +kernel
theorem dX10_init_536 : decode cX10_init 536 = .ok (.dup, 1) := by decide +kernel
theorem dX10_init_537 : decode cX10_init 537 = .ok (.iconst 3, 1) := by decide +kernel
theorem dX10_init_538 : decode cX10_init 538 = .ok (.iconst 2, 1) := by decide +kernel
theorem dX10_init_539 : decode cX10_init 539 = .ok (.iastore, 1) := by decide +kernel
theorem dX10_init_540 : decode cX10_init 540 = .ok (.dup, 1) := by decide +kernel
theorem dX10_init_541 : decode cX10_init 541 = .ok (.iconst 4, 1) := by decide +kernel
theorem dX10_init_542 : decode cX10_init 542 = .ok (.iconst 3, 1) := by decide +kernel
theorem dX10_init_543 : decode cX10_init 543 = .ok (.iastore, 1) := by decide +kernel
theorem dX10_init_544 : decode cX10_init 544 = .ok (.dup, 1) := by decide +kernel
theorem dX10_init_545 : decode cX10_init 545 = .ok (.iconst 5, 1) := by decide +kernel
theorem dX10_init_546 : decode cX10_init 546 = .ok (.iconst 0, 1) := by decide +kernel
theorem dX10_init_547 : decode cX10_init 547 = .ok (.iastore, 1) := by decide +kernel
theorem dX10_init_548 : decode cX10_init 548 = .ok (.putfield 96, 3) := by decide +kernel
theorem dX10_init_551 : decode cX10_init 551 = .ok (.iconst 0, 1) := by decide +kernel
theorem dX10_init_552 : decode cX10_init 552 = .ok (.istore_n 1, 1) := by decide +kernel
theorem dX10_init_553 : decode cX10_init 553 = .ok (.iconst 0, 1) := by decide +kernel
theorem dX10_init_554 : decode cX10_init 554 = .ok (.istore_n 2, 1) := by decide +kernel
theorem dX10_init_555 : decode cX10_init 555 = .ok (.iload_n 2, 1) := by decide +kernel
theorem dX10_init_556 : decode cX10_init 556 = .ok (.bipush 6, 2) := by decide +kernel
theorem dX10_init_558 : decode cX10_init 558 = .ok (.if_icmp .ge 96, 3) := by decide +kernel
theorem dX10_init_561 : decode cX10_init 561 = .ok (.aload_n 0, 1) := by decide +kernel
theorem dX10_init_562 : decode cX10_init 562 = .ok (.getfield 16, 3) := by decide +kernel
theorem dX10_init_565 : decode cX10_init 565 = .ok (.iload_n 2, 1) := by decide +kernel
theorem dX10_init_566 : decode cX10_init 566 = .ok (.aload_n 0, 1) := by decide +kernel
theorem dX10_init_567 : decode cX10_init 567 = .ok (.getfield 93, 3) := by decide +kernel
theorem dX10_init_570 : decode cX10_init 570 = .ok (.iload_n 2, 1) := by decide +kernel
theorem dX10_init_571 : decode cX10_init 571 = .ok (.iaload, 1) := by decide +kernel
theorem dX10_init_572 : decode cX10_init 572 = .ok (.iastore, 1) := by decide +kernel
theorem dX10_init_573 : decode cX10_init 573 = .ok (.aload_n 0, 1) := by decide +kernel
theorem dX10_init_574 : decode cX10_init 574 = .ok (.getfield 19, 3) := by decide +kernel
theorem dX10_init_577 : decode cX10_init 577 = .ok (.iload_n 2, 1) := by decide +kernel
theorem dX10_init_578 : decode cX10_init 578 = .ok (.aload_n 0, 1) := by decide +kernel
theorem dX10_init_579 : decode cX10_init 579 = .ok (.getfield 96, 3) := by decide +kernel
theorem dX10_init_582 : decode cX10_init 582 = .ok (.iload_n 2, 1) := by decide +kernel
theorem dX10_init_583 : decode cX10_init 583 = .ok (.iaload, 1) := by decide +kernel
theorem dX10_init_584 : decode cX10_init 584 = .ok (.iastore, 1) := by decide +kernel
theorem dX10_init_585 : decode cX10_init 585 = .ok (.aload_n 0, 1) := by decide +kernel
theorem dX10_init_586 : decode cX10_init 586 = .ok (.getfield 22, 3) := by decide +kernel
theorem dX10_init_589 : decode cX10_init 589 = .ok (.iload_n 2, 1) := by decide +kernel
theorem dX10_init_590 : decode cX10_init 590 = .ok (.iload_n 2, 1) := by decide +kernel
theorem dX10_init_591 : decode cX10_init 591 = .ok (.iastore, 1) := by decide +kernel
theorem dX10_init_592 : decode cX10_init 592 = .ok (.iconst 0, 1) := by decide +kernel
theorem dX10_init_593 : decode cX10_init 593 = .ok (.istore_n 3, 1) := by decide +kernel
theorem dX10_init_594 : decode cX10_init 594 = .ok (.iload_n 3, 1) := by decide +kernel
theorem dX10_init_595 : decode cX10_init 595 = .ok (.aload_n 0, 1) := by decide +kernel
theorem dX10_init_596 : decode cX10_init 596 = .ok (.getfield 16, 3) := by decide +kernel
theorem dX10_init_599 : decode cX10_init 599 = .ok (.iload_n 2, 1) := by decide +kernel
theorem dX10_init_600 : decode cX10_init 600 = .ok (.iaload, 1) := by decide +kernel
theorem dX10_init_601 : decode cX10_init 601 = .ok (.if_icmp .ge 47, 3) := by decide +kernel
theorem dX10_init_604 : decode cX10_init 604 = .ok (.aload_n 0, 1) := by decide +kernel
theorem dX10_init_605 : decode cX10_init 605 = .ok (.getfield 13, 3) := by decide +kernel
theorem dX10_init_608 : decode cX10_init 608 = .ok (.bipush 12, 2) := by decide +kernel
theorem dX10_init_610 : decode cX10_init 610 = .ok (.iload_n 2, 1) := by decide +kernel
theorem dX10_init_611 : decode cX10_init 611 = .ok (.imul, 1) := by decide +kernel
theorem dX10_init_612 : decode cX10_init 612 = .ok (.iload_n 3, 1) := by decide +kernel
theorem dX10_init_613 : decode cX10_init 613 = .ok (.iadd, 1) := by decide +kernel
theorem dX10_init_614 : decode cX10_init 614 = .ok (.iload_n 1, 1) := by decide +kernel
theorem dX10_init_615 : decode cX10_init 615 = .ok (.bipush 26, 2) := by decide +kernel
theorem dX10_init_617 : decode cX10_init 617 = .ok (.if_icmp .ge 12, 3) := by decide +kernel
theorem dX10_init_620 : decode cX10_init 620 = .ok (.aload_n 0, 1) := by decide +kernel
theorem dX10_init_621 : decode cX10_init 621 = .ok (.getfield 87, 3) := by decide +kernel
theorem dX10_init_624 : decode cX10_init 624 = .ok (.iload_n 1, 1) := by decide +kernel
theorem dX10_init_625 : decode cX10_init 625 = .ok (.iaload, 1) := by decide +kernel
theorem dX10_init_626 : decode cX10_init 626 = .ok (.goto 12, 3) := by decide +kernel
theorem dX10_init_629 : decode cX10_init 629 = .ok (.aload_n 0, 1) := by decide +kernel
theorem dX10_init_630 : decode cX10_init 630 = .ok (.getfield 90, 3) := by decide +kernel
theorem dX10_init_633 : decode cX10_init 633 = .ok (.iload_n 1, 1) := by decide +kernel
theorem dX10_init_634 : decode cX10_init 634 = .ok (.bipush 26, 2) := by decide +kernel
theorem dX10_init_636 : decode cX10_init 636 = .ok (.isub, 1) := by decide +kernel
theorem dX10_init_637 : decode cX10_init 637 = .ok (.iaload, 1) := by decide +kernel
theorem dX10_init_638 : decode cX10_init 638 = .ok (.iastore, 1) := by decide +kernel
theorem dX10_init_639 : decode cX10_init 639 = .ok (.iinc 1 1, 3) := by decide +kernel
theorem dX10_init_642 : decode cX10_init 642 = .ok (.iinc 3 1, 3) := by decide +kernel
theorem dX10_init_645 : decode cX10_init 645 = .ok (.goto (-51), 3) := by decide +kernel
theorem dX10_init_648 : decode cX10_init 648 = .ok (.iinc 2 1, 3) := by decide +kernel
theorem dX10_init_651 : decode cX10_init 651 = .ok (.goto (-96), 3) := by decide +kernel
theorem dX10_init_654 : decode cX10_init 654 = .ok (.aload_n 0, 1) := by decide +kernel
theorem dX10_init_655 : decode cX10_init 655 = .ok (.bipush 6, 2) := by decide +kernel
theorem dX10_init_657 : decode cX10_init 657 = .ok (.putfield 99, 3) := by decide +kernel
theorem dX10_init_660 : decode cX10_init 660 = .ok (.aload_n 0, 1) := by decide +kernel
theorem dX10_init_661 : decode cX10_init 661 = .ok (.bipush 6, 2) := by decide +kernel
theorem dX10_init_663 : decode cX10_init 663 = .ok (.putfield 102, 3) := by decide +kernel
theorem dX10_init_666 : decode cX10_init 666 = .ok (.aload_n 0, 1) := by decide +kernel
theorem dX10_init_667 : decode cX10_init 667 = .ok (.getfield 28, 3) := by decide +kernel
theorem dX10_init_670 : decode cX10_init 670 = .ok (.iconst 0, 1) := by decide +kernel
theorem dX10_init_671 : decode cX10_init 671 = .ok (.iconst 4, 1) := by decide +kernel
theorem dX10_init_672 : decode cX10_init 672 = .ok (.iastore, 1) := by decide +kernel
theorem dX10_init_673 : decode cX10_init 673 = .ok (.aload_n 0, 1) := by decide +kernel
theorem dX10_init_674 : decode cX10_init 674 = .ok (.getfield 28, 3) := by decide +kernel
theorem dX10_init_677 : decode cX10_init 677 = .ok (.iconst 1, 1) := by decide +kernel
theorem dX10_init_678 : decode cX10_init 678 = .ok (.iconst 3, 1) := by decide +kernel
theorem dX10_init_679 : decode cX10_init 679 = .ok (.iastore, 1) := by decide +kernel
theorem dX10_init_680 : decode cX10_init 680 = .ok (.aload_n 0, 1) := by decide +kernel
theorem dX10_init_681 : decode cX10_init 681 = .ok (.getfield 28, 3) := by decide +kernel
theorem dX10_init_684 : decode cX10_init 684 = .ok (.iconst 2, 1) := by decide +kernel
theorem dX10_init_685 : decode cX10_init 685 = .ok (.iconst 1, 1) := by decide +kernel
theorem dX10_init_686 : decode cX10_init 686 = .ok (.iastore, 1) := by decide +kernel
theorem dX10_init_687 : decode cX10_init 687 = .ok (.iconst 0, 1) := by decide +kernel
theorem dX10_init_688 : decode cX10_init 688 = .ok (.istore_n 2, 1) := by decide +kernel
theorem dX10_init_689 : decode cX10_init 689 = .ok (.iload_n 2, 1) := by decide +kernel
theorem dX10_init_690 : decode cX10_init 690 = .ok (.bipush 32, 2) := by decide +kernel
theorem dX10_init_692 : decode cX10_init 692 = .ok (.if_icmp .ge 16, 3) := by decide +kernel
theorem dX10_init_695 : decode cX10_init 695 = .ok (.aload_n 0, 1) := by decide +kernel
theorem dX10_init_696 : decode cX10_init 696 = .ok (.getfield 63, 3) := by decide +kernel
theorem dX10_init_699 : decode cX10_init 699 = .ok (.iload_n 2, 1) := by decide +kernel
theorem dX10_init_700 : decode cX10_init 700 = .ok (.iconst (-1), 1) := by decide +kernel
theorem dX10_init_701 : decode cX10_init 701 = .ok (.iastore, 1) := by decide +kernel
theorem dX10_init_702 : decode cX10_init 702 = .ok (.iinc 2 1, 3) := by decide +kernel
theorem dX10_init_705 : decode cX10_init 705 = .ok (.goto (-16), 3) := by decide +kernel
theorem dX10_init_708 : decode cX10_init 708 = .ok (.return_, 1) := by decide +kernel
theorem dX10_isSmall_0 : decode cX10_isSmall 0 = .ok (.iload_n 0, 1) := by decide +kernel
theorem dX10_isSmall_1 : decode cX10_isSmall 1 = .ok (.bipush 97, 2) := by decide +kernel
theorem dX10_isSmall_3 : decode cX10_isSmall 3 = .ok (.if_icmp .lt 13, 3) := by decide +kernel
theorem dX10_isSmall_6 : decode cX10_isSmall 6 = .ok (.iload_n 0, 1) := by decide +kernel
theorem dX10_isSmall_7 : decode cX10_isSmall 7 = .ok (.bipush 122, 2) := by decide +kernel
theorem dX10_isSmall_9 : decode cX10_isSmall 9 = .ok (.if_icmp .gt 7, 3) := by decide +kernel
theorem dX10_isSmall_12 : decode cX10_isSmall 12 = .ok (.iconst 1, 1) := by decide +kernel
theorem dX10_isSmall_13 : decode cX10_isSmall 13 = .ok (.goto 4, 3) := by decide +kernel
theorem dX10_isSmall_16 : decode cX10_isSmall 16 = .ok (.iconst 0, 1) := by decide +kernel
theorem dX10_isSmall_17 : decode cX10_isSmall 17 = .ok (.ireturn, 1) := by decide +kernel
theorem dX10_isGreat_0 : decode cX10_isGreat 0 = .ok (.iload_n 0, 1) := by decide +kernel
theorem dX10_isGreat_1 : decode cX10_isGreat 1 = .ok (.bipush 65, 2) := by decide +kernel
theorem dX10_isGreat_3 : decode cX10_isGreat 3 = .ok (.if_icmp .lt 13, 3) := by decide +kernel
theorem dX10_isGreat_6 : decode cX10_isGreat 6 = .ok (.iload_n 0, 1) := by decide +kernel
theorem dX10_isGreat_7 : decode cX10_isGreat 7 = .ok (.bipush 90, 2) := by decide +kernel
theorem dX10_isGreat_9 : decode cX10_isGreat 9 = .ok (.if_icmp .gt 7, 3) := by decide +kernel
theorem dX10_isGreat_12 : decode cX10_isGreat 12 = .ok (.iconst 1, 1) := by decide +kernel
theorem dX10_isGreat_13 : decode cX10_isGreat 13 = .ok (.goto 4, 3) := by decide +kernel
theorem dX10_isGreat_16 : decode cX10_isGreat 16 = .ok (.iconst 0, 1) := by decide +kernel
theorem dX10_isGreat_17 : decode cX10_isGreat 17 = .ok (.ireturn, 1) := by decide +kernel
theorem dX10_isSign_0 : decode cX10_isSign 0 = .ok (.iload_n 0, 1) := by decide +kernel
theorem dX10_isSign_1 : decode cX10_isSign 1 = .ok (.invokestatic 105, 3) := by decide +kernel
theorem dX10_isSign_4 : decode cX10_isSign 4 = .ok (.ifCond .ne 16, 3) := by decide +kernel
theorem dX10_isSign_7 : decode cX10_isSign 7 = .ok (.iload_n 0, 1) := by decide +kernel
theorem dX10_isSign_8 : decode cX10_isSign 8 = .ok (.invokestatic 109, 3) := by decide +kernel
theorem dX10_isSign_11 : decode cX10_isSign 11 = .ok (.ifCond .ne 9, 3) := by decide +kernel
theorem dX10_isSign_14 : decode cX10_isSign 14 = .ok (.iload_n 0, 1) := by decide +kernel
theorem dX10_isSign_15 : decode cX10_isSign 15 = .ok (.bipush 95, 2) := by decide +kernel
theorem dX10_isSign_17 : decode cX10_isSign 17 = .ok (.if_icmp .ne 7, 3) := by decide +kernel
theorem dX10_isSign_20 : decode cX10_isSign 20 = .ok (.iconst 1, 1) := by decide +kernel
theorem dX10_isSign_21 : decode cX10_isSign 21 = .ok (.goto 4, 3) := by decide +kernel
theorem dX10_isSign_24 : decode cX10_isSign 24 = .ok (.iconst 0, 1) := by decide +kernel
theorem dX10_isSign_25 : decode cX10_isSign 25 = .ok (.ireturn, 1) := by decide +kernel
theorem dX10_letterAt_0 : decode cX10_letterAt 0 = .ok (.iload_n 1, 1) := by decide +kernel
theorem dX10_letterAt_1 : decode cX10_letterAt 1 = .ok (.aload_n 0, 1) := by decide +kernel
theorem dX10_letterAt_2 : decode cX10_letterAt 2 = .ok (.getfield 112, 3) := by decide +kernel
theorem dX10_letterAt_5 : decode cX10_letterAt 5 = .ok (.if_icmp .ge 12, 3) := by decide +kernel
theorem dX10_letterAt_8 : decode cX10_letterAt 8 = .ok (.aload_n 0, 1) := by decide +kernel
theorem dX10_letterAt_9 : decode cX10_letterAt 9 = .ok (.getfield 7, 3) := by decide +kernel
theorem dX10_letterAt_12 : decode cX10_letterAt 12 = .ok (.iload_n 1, 1) := by decide +kernel
theorem dX10_letterAt_13 : decode cX10_letterAt 13 = .ok (.iaload, 1) := by decide +kernel
theorem dX10_letterAt_14 : decode cX10_letterAt 14 = .ok (.goto 4, 3) := by decide +kernel
theorem dX10_letterAt_17 : decode cX10_letterAt 17 = .ok (.iconst 0, 1) := by decide +kernel
theorem dX10_letterAt_18 : decode cX10_letterAt 18 = .ok (.ireturn, 1) := by decide +kernel
theorem dX10_isFigure_0 : decode cX10_isFigure 0 = .ok (.aload_n 0, 1) := by decide +kernel
theorem dX10_isFigure_1 : decode cX10_isFigure 1 = .ok (.iload_n 1, 1) := by decide +kernel
theorem dX10_isFigure_2 : decode cX10_isFigure 2 = .ok (.invokevirtual 115, 3) := by decide +kernel
theorem dX10_isFigure_5 : decode cX10_isFigure 5 = .ok (.bipush 48, 2) := by decide +kernel
theorem dX10_isFigure_7 : decode cX10_isFigure 7 = .ok (.if_icmp .lt 19, 3) := by decide +kernel
theorem dX10_isFigure_10 : decode cX10_isFigure 10 = .ok (.aload_n 0, 1) := by decide +kernel
theorem dX10_isFigure_11 : decode cX10_isFigure 11 = .ok (.iload_n 1, 1) := by decide +kernel
theorem dX10_isFigure_12 : decode cX10_isFigure 12 = .ok (.invokevirtual 115, 3) := by decide +kernel
theorem dX10_isFigure_15 : decode cX10_isFigure 15 = .ok (.bipush 48, 2) := by decide +kernel
theorem dX10_isFigure_17 : decode cX10_isFigure 17 = .ok (.iload_n 2, 1) := by decide +kernel
theorem dX10_isFigure_18 : decode cX10_isFigure 18 = .ok (.iadd, 1) := by decide +kernel
theorem dX10_isFigure_19 : decode cX10_isFigure 19 = .ok (.if_icmp .gt 7, 3) := by decide +kernel
theorem dX10_isFigure_22 : decode cX10_isFigure 22 = .ok (.iconst 1, 1) := by decide +kernel
theorem dX10_isFigure_23 : decode cX10_isFigure 23 = .ok (.goto 4, 3) := by decide +kernel
theorem dX10_isFigure_26 : decode cX10_isFigure 26 = .ok (.iconst 0, 1) := by decide +kernel
theorem dX10_isFigure_27 : decode cX10_isFigure 27 = .ok (.ireturn, 1) := by decide +kernel
theorem dX10_readsName_0 : decode cX10_readsName 0 = .ok (.aload_n 0, 1) := by decide +kernel
theorem dX10_readsName_1 : decode cX10_readsName 1 = .ok (.getfield 119, 3) := by decide +kernel
theorem dX10_readsName_4 : decode cX10_readsName 4 = .ok (.bipush 8, 2) := by decide +kernel
theorem dX10_readsName_6 : decode cX10_readsName 6 = .ok (.if_icmp .eq 26, 3) := by decide +kernel
theorem dX10_readsName_9 : decode cX10_readsName 9 = .ok (.aload_n 0, 1) := by decide +kernel
theorem dX10_readsName_10 : decode cX10_readsName 10 = .ok (.iload_n 1, 1) := by decide +kernel
theorem dX10_readsName_11 : decode cX10_readsName 11 = .ok (.iconst 1, 1) := by decide +kernel
theorem dX10_readsName_12 : decode cX10_readsName 12 = .ok (.iadd, 1) := by decide +kernel
theorem dX10_readsName_13 : decode cX10_readsName 13 = .ok (.iconst 3, 1) := by decide +kernel
theorem dX10_readsName_14 : decode cX10_readsName 14 = .ok (.invokevirtual 122, 3) := by decide +kernel
theorem dX10_readsName_17 : decode cX10_readsName 17 = .ok (.ifCond .eq 15, 3) := by decide +kernel
theorem dX10_readsName_20 : decode cX10_readsName 20 = .ok (.aload_n 0, 1) := by decide +kernel
theorem dX10_readsName_21 : decode cX10_readsName 21 = .ok (.iload_n 1, 1) := by decide +kernel
theorem dX10_readsName_22 : decode cX10_readsName 22 = .ok (.iconst 2, 1) := by decide +kernel
theorem dX10_readsName_23 : decode cX10_readsName 23 = .ok (.iadd, 1) := by decide +kernel
theorem dX10_readsName_24 : decode cX10_readsName 24 = .ok (.invokevirtual 115, 3) := by decide +kernel
theorem dX10_readsName_27 : decode cX10_readsName 27 = .ok (.bipush 44, 2) := by decide +kernel
theorem dX10_readsName_29 : decode cX10_readsName 29 = .ok (.if_icmp .eq 5, 3) := by decide +kernel
theorem dX10_readsName_32 : decode cX10_readsName 32 = .ok (.iconst (-1), 1) := by decide +kernel
theorem dX10_readsName_33 : decode cX10_readsName 33 = .ok (.ireturn, 1) := by decide +kernel
theorem dX10_readsName_34 : decode cX10_readsName 34 = .ok (.iconst 0, 1) := by decide +kernel
theorem dX10_readsName_35 : decode cX10_readsName 35 = .ok (.istore_n 2, 1) := by decide +kernel
theorem dX10_readsName_36 : decode cX10_readsName 36 = .ok (.iload_n 2, 1) := by decide +kernel
theorem dX10_readsName_37 : decode cX10_readsName 37 = .ok (.bipush 13, 2) := by decide +kernel
theorem dX10_readsName_39 : decode cX10_readsName 39 = .ok (.if_icmp .ge 24, 3) := by decide +kernel
theorem dX10_readsName_42 : decode cX10_readsName 42 = .ok (.aload_n 0, 1) := by decide +kernel
theorem dX10_readsName_43 : decode cX10_readsName 43 = .ok (.iload_n 1, 1) := by decide +kernel
theorem dX10_readsName_44 : decode cX10_readsName 44 = .ok (.iconst 3, 1) := by decide +kernel
theorem dX10_readsName_45 : decode cX10_readsName 45 = .ok (.iadd, 1) := by decide +kernel
theorem dX10_readsName_46 : decode cX10_readsName 46 = .ok (.iload_n 2, 1) := by decide +kernel
theorem dX10_readsName_47 : decode cX10_readsName 47 = .ok (.iadd, 1) := by decide +kernel
theorem dX10_readsName_48 : decode cX10_readsName 48 = .ok (.invokevirtual 115, 3) := by decide +kernel
theorem dX10_readsName_51 : decode cX10_readsName 51 = .ok (.invokestatic 126, 3) := by decide +kernel
theorem dX10_readsName_54 : decode cX10_readsName 54 = .ok (.ifCond .eq 9, 3) := by decide +kernel
theorem dX10_readsName_57 : decode cX10_readsName 57 = .ok (.iinc 2 1, 3) := by decide +kernel
theorem dX10_readsName_60 : decode cX10_readsName 60 = .ok (.goto (-24), 3) := by decide +kernel
theorem dX10_readsName_63 : decode cX10_readsName 63 = .ok (.iload_n 2, 1) := by decide +kernel
theorem dX10_readsName_64 : decode cX10_readsName 64 = .ok (.ifCond .eq 23, 3) := by decide +kernel
theorem dX10_readsName_67 : decode cX10_readsName 67 = .ok (.iload_n 2, 1) := by decide +kernel
theorem dX10_readsName_68 : decode cX10_readsName 68 = .ok (.bipush 13, 2) := by decide +kernel
theorem dX10_readsName_70 : decode cX10_readsName 70 = .ok (.if_icmp .eq 17, 3) := by decide +kernel
theorem dX10_readsName_73 : decode cX10_readsName 73 = .ok (.aload_n 0, 1) := by decide +kernel
theorem dX10_readsName_74 : decode cX10_readsName 74 = .ok (.iload_n 1, 1) := by decide +kernel
theorem dX10_readsName_75 : decode cX10_readsName 75 = .ok (.iconst 3, 1) := by decide +kernel
theorem dX10_readsName_76 : decode cX10_readsName 76 = .ok (.iadd, 1) := by decide +kernel
theorem dX10_readsName_77 : decode cX10_readsName 77 = .ok (.iload_n 2, 1) := by decide +kernel
theorem dX10_readsName_78 : decode cX10_readsName 78 = .ok (.iadd, 1) := by decide +kernel
theorem dX10_readsName_79 : decode cX10_readsName 79 = .ok (.invokevirtual 115, 3) := by decide +kernel
theorem dX10_readsName_82 : decode cX10_readsName 82 = .ok (.bipush 59, 2) := by decide +kernel
theorem dX10_readsName_84 : decode cX10_readsName 84 = .ok (.if_icmp .eq 5, 3) := by decide +kernel
theorem dX10_readsName_87 : decode cX10_readsName 87 = .ok (.iconst (-1), 1) := by decide +kernel
theorem dX10_readsName_88 : decode cX10_readsName 88 = .ok (.ireturn, 1) := by decide +kernel
theorem dX10_readsName_89 : decode cX10_readsName 89 = .ok (.iconst 0, 1) := by decide +kernel
theorem dX10_readsName_90 : decode cX10_readsName 90 = .ok (.istore_n 3, 1) := by decide +kernel
theorem dX10_readsName_91 : decode cX10_readsName 91 = .ok (.iload_n 3, 1) := by decide +kernel
theorem dX10_readsName_92 : decode cX10_readsName 92 = .ok (.iload_n 2, 1) := by decide +kernel
theorem dX10_readsName_93 : decode cX10_readsName 93 = .ok (.if_icmp .ge 32, 3) := by decide +kernel
theorem dX10_readsName_96 : decode cX10_readsName 96 = .ok (.aload_n 0, 1) := by decide +kernel
theorem dX10_readsName_97 : decode cX10_readsName 97 = .ok (.getfield 31, 3) := by decide +kernel
theorem dX10_readsName_100 : decode cX10_readsName 100 = .ok (.bipush 12, 2) := by decide +kernel
theorem dX10_readsName_102 : decode cX10_readsName 102 = .ok (.aload_n 0, 1) := by decide +kernel
theorem dX10_readsName_103 : decode cX10_readsName 103 = .ok (.getfield 119, 3) := by decide +kernel
theorem dX10_readsName_106 : decode cX10_readsName 106 = .ok (.imul, 1) := by decide +kernel
theorem dX10_readsName_107 : decode cX10_readsName 107 = .ok (.iload_n 3, 1) := by decide +kernel
theorem dX10_readsName_108 : decode cX10_readsName 108 = .ok (.iadd, 1) := by decide +kernel
theorem dX10_readsName_109 : decode cX10_readsName 109 = .ok (.aload_n 0, 1) := by decide +kernel
theorem dX10_readsName_110 : decode cX10_readsName 110 = .ok (.iload_n 1, 1) := by decide +kernel
theorem dX10_readsName_111 : decode cX10_readsName 111 = .ok (.iconst 3, 1) := by decide +kernel
theorem dX10_readsName_112 : decode cX10_readsName 112 = .ok (.iadd, 1) := by decide +kernel
theorem dX10_readsName_113 : decode cX10_readsName 113 = .ok (.iload_n 3, 1) := by decide +kernel
theorem dX10_readsName_114 : decode cX10_readsName 114 = .ok (.iadd, 1) := by decide +kernel
theorem dX10_readsName_115 : decode cX10_readsName 115 = .ok (.invokevirtual 115, 3) := by decide +kernel
theorem dX10_readsName_118 : decode cX10_readsName 118 = .ok (.iastore, 1) := by decide +kernel
theorem dX10_readsName_119 : decode cX10_readsName 119 = .ok (.iinc 3 1, 3) := by decide +kernel
theorem dX10_readsName_122 : decode cX10_readsName 122 = .ok (.goto (-31), 3) := by decide +kernel
theorem dX10_readsName_125 : decode cX10_readsName 125 = .ok (.aload_n 0, 1) := by decide +kernel
theorem dX10_readsName_126 : decode cX10_readsName 126 = .ok (.getfield 37, 3) := by decide +kernel
theorem dX10_readsName_129 : decode cX10_readsName 129 = .ok (.aload_n 0, 1) := by decide +kernel
theorem dX10_readsName_130 : decode cX10_readsName 130 = .ok (.getfield 119, 3) := by decide +kernel
theorem dX10_readsName_133 : decode cX10_readsName 133 = .ok (.aload_n 0, 1) := by decide +kernel
theorem dX10_readsName_134 : decode cX10_readsName 134 = .ok (.iload_n 1, 1) := by decide +kernel
theorem dX10_readsName_135 : decode cX10_readsName 135 = .ok (.iconst 1, 1) := by decide +kernel
theorem dX10_readsName_136 : decode cX10_readsName 136 = .ok (.iadd, 1) := by decide +kernel
theorem dX10_readsName_137 : decode cX10_readsName 137 = .ok (.invokevirtual 115, 3) := by decide +kernel
theorem dX10_readsName_140 : decode cX10_readsName 140 = .ok (.bipush 48, 2) := by decide +kernel
theorem dX10_readsName_142 : decode cX10_readsName 142 = .ok (.isub, 1) := by decide +kernel
theorem dX10_readsName_143 : decode cX10_readsName 143 = .ok (.iastore, 1) := by decide +kernel
theorem dX10_readsName_144 : decode cX10_readsName 144 = .ok (.aload_n 0, 1) := by decide +kernel
theorem dX10_readsName_145 : decode cX10_readsName 145 = .ok (.getfield 34, 3) := by decide +kernel
theorem dX10_readsName_148 : decode cX10_readsName 148 = .ok (.aload_n 0, 1) := by decide +kernel
theorem dX10_readsName_149 : decode cX10_readsName 149 = .ok (.getfield 119, 3) := by decide +kernel
theorem dX10_readsName_152 : decode cX10_readsName 152 = .ok (.iload_n 2, 1) := by decide +kernel
theorem dX10_readsName_153 : decode cX10_readsName 153 = .ok (.iastore, 1) := by decide +kernel
theorem dX10_readsName_154 : decode cX10_readsName 154 = .ok (.aload_n 0, 1) := by decide +kernel
theorem dX10_readsName_155 : decode cX10_readsName 155 = .ok (.dup, 1) := by decide +kernel
theorem dX10_readsName_156 : decode cX10_readsName 156 = .ok (.getfield 119, 3) := by decide +kernel
theorem dX10_readsName_159 : decode cX10_readsName 159 = .ok (.iconst 1, 1) := by decide +kernel
theorem dX10_readsName_160 : decode cX10_readsName 160 = .ok (.iadd, 1) := by decide +kernel
theorem dX10_readsName_161 : decode cX10_readsName 161 = .ok (.putfield 119, 3) := by decide +kernel
theorem dX10_readsName_164 : decode cX10_readsName 164 = .ok (.iload_n 1, 1) := by decide +kernel
theorem dX10_readsName_165 : decode cX10_readsName 165 = .ok (.iconst 4, 1) := by decide +kernel
theorem dX10_readsName_166 : decode cX10_readsName 166 = .ok (.iadd, 1) := by decide +kernel
theorem dX10_readsName_167 : decode cX10_readsName 167 = .ok (.iload_n 2, 1) := by decide +kernel
theorem dX10_readsName_168 : decode cX10_readsName 168 = .ok (.iadd, 1) := by decide +kernel
theorem dX10_readsName_169 : decode cX10_readsName 169 = .ok (.ireturn, 1) := by decide +kernel
theorem dX10_readsWorths_0 : decode cX10_readsWorths 0 = .ok (.iconst 0, 1) := by decide +kernel
theorem dX10_readsWorths_1 : decode cX10_readsWorths 1 = .ok (.istore_n 2, 1) := by decide +kernel
theorem dX10_readsWorths_2 : decode cX10_readsWorths 2 = .ok (.iload_n 2, 1) := by decide +kernel
theorem dX10_readsWorths_3 : decode cX10_readsWorths 3 = .ok (.iconst 3, 1) := by decide +kernel
theorem dX10_readsWorths_4 : decode cX10_readsWorths 4 = .ok (.if_icmp .ge 53, 3) := by decide +kernel
theorem dX10_readsWorths_7 : decode cX10_readsWorths 7 = .ok (.aload_n 0, 1) := by decide +kernel
theorem dX10_readsWorths_8 : decode cX10_readsWorths 8 = .ok (.iload_n 1, 1) := by decide +kernel
theorem dX10_readsWorths_9 : decode cX10_readsWorths 9 = .ok (.iconst 1, 1) := by decide +kernel
theorem dX10_readsWorths_10 : decode cX10_readsWorths 10 = .ok (.iadd, 1) := by decide +kernel
theorem dX10_readsWorths_11 : decode cX10_readsWorths 11 = .ok (.iconst 2, 1) := by decide +kernel
theorem dX10_readsWorths_12 : decode cX10_readsWorths 12 = .ok (.iload_n 2, 1) := by decide +kernel
theorem dX10_readsWorths_13 : decode cX10_readsWorths 13 = .ok (.imul, 1) := by decide +kernel
theorem dX10_readsWorths_14 : decode cX10_readsWorths 14 = .ok (.iadd, 1) := by decide +kernel
theorem dX10_readsWorths_15 : decode cX10_readsWorths 15 = .ok (.bipush 9, 2) := by decide +kernel
theorem dX10_readsWorths_17 : decode cX10_readsWorths 17 = .ok (.invokevirtual 122, 3) := by decide +kernel
theorem dX10_readsWorths_20 : decode cX10_readsWorths 20 = .ok (.ifCond .eq 29, 3) := by decide +kernel
theorem dX10_readsWorths_23 : decode cX10_readsWorths 23 = .ok (.aload_n 0, 1) := by decide +kernel
theorem dX10_readsWorths_24 : decode cX10_readsWorths 24 = .ok (.iload_n 1, 1) := by decide +kernel
theorem dX10_readsWorths_25 : decode cX10_readsWorths 25 = .ok (.iconst 2, 1) := by decide +kernel
theorem dX10_readsWorths_26 : decode cX10_readsWorths 26 = .ok (.iadd, 1) := by decide +kernel
theorem dX10_readsWorths_27 : decode cX10_readsWorths 27 = .ok (.iconst 2, 1) := by decide +kernel
theorem dX10_readsWorths_28 : decode cX10_readsWorths 28 = .ok (.iload_n 2, 1) := by decide +kernel
theorem dX10_readsWorths_29 : decode cX10_readsWorths 29 = .ok (.imul, 1) := by decide +kernel
theorem dX10_readsWorths_30 : decode cX10_readsWorths 30 = .ok (.iadd, 1) := by decide +kernel
theorem dX10_readsWorths_31 : decode cX10_readsWorths 31 = .ok (.invokevirtual 115, 3) := by decide +kernel
theorem dX10_readsWorths_34 : decode cX10_readsWorths 34 = .ok (.iload_n 2, 1) := by decide +kernel
theorem dX10_readsWorths_35 : decode cX10_readsWorths 35 = .ok (.iconst 2, 1) := by decide +kernel
theorem dX10_readsWorths_36 : decode cX10_readsWorths 36 = .ok (.if_icmp .ge 8, 3) := by decide +kernel
theorem dX10_readsWorths_39 : decode cX10_readsWorths 39 = .ok (.bipush 44, 2) := by decide +kernel
theorem dX10_readsWorths_41 : decode cX10_readsWorths 41 = .ok (.goto 5, 3) := by decide +kernel
theorem dX10_readsWorths_44 : decode cX10_readsWorths 44 = .ok (.bipush 59, 2) := by decide +kernel
theorem dX10_readsWorths_46 : decode cX10_readsWorths 46 = .ok (.if_icmp .eq 5, 3) := by decide +kernel
theorem dX10_readsWorths_49 : decode cX10_readsWorths 49 = .ok (.iconst (-1), 1) := by decide +kernel
theorem dX10_readsWorths_50 : decode cX10_readsWorths 50 = .ok (.ireturn, 1) := by decide +kernel
theorem dX10_readsWorths_51 : decode cX10_readsWorths 51 = .ok (.iinc 2 1, 3) := by decide +kernel
theorem dX10_readsWorths_54 : decode cX10_readsWorths 54 = .ok (.goto (-52), 3) := by decide +kernel
theorem dX10_readsWorths_57 : decode cX10_readsWorths 57 = .ok (.iconst 0, 1) := by decide +kernel
theorem dX10_readsWorths_58 : decode cX10_readsWorths 58 = .ok (.istore_n 2, 1) := by decide +kernel
theorem dX10_readsWorths_59 : decode cX10_readsWorths 59 = .ok (.iload_n 2, 1) := by decide +kernel
theorem dX10_readsWorths_60 : decode cX10_readsWorths 60 = .ok (.iconst 3, 1) := by decide +kernel
theorem dX10_readsWorths_61 : decode cX10_readsWorths 61 = .ok (.if_icmp .ge 29, 3) := by decide +kernel
theorem dX10_readsWorths_64 : decode cX10_readsWorths 64 = .ok (.aload_n 0, 1) := by decide +kernel
theorem dX10_readsWorths_65 : decode cX10_readsWorths 65 = .ok (.getfield 40, 3) := by decide +kernel
theorem dX10_readsWorths_68 : decode cX10_readsWorths 68 = .ok (.iload_n 2, 1) := by decide +kernel
theorem dX10_readsWorths_69 : decode cX10_readsWorths 69 = .ok (.aload_n 0, 1) := by decide +kernel
theorem dX10_readsWorths_70 : decode cX10_readsWorths 70 = .ok (.iload_n 1, 1) := by decide +kernel
theorem dX10_readsWorths_71 : decode cX10_readsWorths 71 = .ok (.iconst 1, 1) := by decide +kernel
theorem dX10_readsWorths_72 : decode cX10_readsWorths 72 = .ok (.iadd, 1) := by decide +kernel
theorem dX10_readsWorths_73 : decode cX10_readsWorths 73 = .ok (.iconst 2, 1) := by decide +kernel
theorem dX10_readsWorths_74 : decode cX10_readsWorths 74 = .ok (.iload_n 2, 1) := by decide +kernel
theorem dX10_readsWorths_75 : decode cX10_readsWorths 75 = .ok (.imul, 1) := by decide +kernel
theorem dX10_readsWorths_76 : decode cX10_readsWorths 76 = .ok (.iadd, 1) := by decide +kernel
theorem dX10_readsWorths_77 : decode cX10_readsWorths 77 = .ok (.invokevirtual 115, 3) := by decide +kernel
theorem dX10_readsWorths_80 : decode cX10_readsWorths 80 = .ok (.bipush 48, 2) := by decide +kernel
theorem dX10_readsWorths_82 : decode cX10_readsWorths 82 = .ok (.isub, 1) := by decide +kernel
theorem dX10_readsWorths_83 : decode cX10_readsWorths 83 = .ok (.iastore, 1) := by decide +kernel
theorem dX10_readsWorths_84 : decode cX10_readsWorths 84 = .ok (.iinc 2 1, 3) := by decide +kernel
theorem dX10_readsWorths_87 : decode cX10_readsWorths 87 = .ok (.goto (-28), 3) := by decide +kernel
theorem dX10_readsWorths_90 : decode cX10_readsWorths 90 = .ok (.iload_n 1, 1) := by decide +kernel
theorem dX10_readsWorths_91 : decode cX10_readsWorths 91 = .ok (.bipush 7, 2) := by decide +kernel
theorem dX10_readsWorths_93 : decode cX10_readsWorths 93 = .ok (.iadd, 1) := by decide +kernel
theorem dX10_readsWorths_94 : decode cX10_readsWorths 94 = .ok (.ireturn, 1) := by decide +kernel
theorem dX10_reads_0 : decode cX10_reads 0 = .ok (.aload_n 0, 1) := by decide +kernel
theorem dX10_reads_1 : decode cX10_reads 1 = .ok (.iconst 0, 1) := by decide +kernel
theorem dX10_reads_2 : decode cX10_reads 2 = .ok (.putfield 119, 3) := by decide +kernel
theorem dX10_reads_5 : decode cX10_reads 5 = .ok (.aload_n 0, 1) := by decide +kernel
theorem dX10_reads_6 : decode cX10_reads 6 = .ok (.getfield 40, 3) := by decide +kernel
theorem dX10_reads_9 : decode cX10_reads 9 = .ok (.iconst 0, 1) := by decide +kernel
theorem dX10_reads_10 : decode cX10_reads 10 = .ok (.iconst 3, 1) := by decide +kernel
theorem dX10_reads_11 : decode cX10_reads 11 = .ok (.iastore, 1) := by decide +kernel
theorem dX10_reads_12 : decode cX10_reads 12 = .ok (.aload_n 0, 1) := by decide +kernel
theorem dX10_reads_13 : decode cX10_reads 13 = .ok (.getfield 40, 3) := by decide +kernel
theorem dX10_reads_16 : decode cX10_reads 16 = .ok (.iconst 1, 1) := by decide +kernel
theorem dX10_reads_17 : decode cX10_reads 17 = .ok (.iconst 2, 1) := by decide +kernel
theorem dX10_reads_18 : decode cX10_reads 18 = .ok (.iastore, 1) := by decide +kernel
theorem dX10_reads_19 : decode cX10_reads 19 = .ok (.aload_n 0, 1) := by decide +kernel
theorem dX10_reads_20 : decode cX10_reads 20 = .ok (.getfield 40, 3) := by decide +kernel
theorem dX10_reads_23 : decode cX10_reads 23 = .ok (.iconst 2, 1) := by decide +kernel
theorem dX10_reads_24 : decode cX10_reads 24 = .ok (.iconst 1, 1) := by decide +kernel
theorem dX10_reads_25 : decode cX10_reads 25 = .ok (.iastore, 1) := by decide +kernel
theorem dX10_reads_26 : decode cX10_reads 26 = .ok (.iconst 0, 1) := by decide +kernel
theorem dX10_reads_27 : decode cX10_reads 27 = .ok (.istore_n 1, 1) := by decide +kernel
theorem dX10_reads_28 : decode cX10_reads 28 = .ok (.iload_n 1, 1) := by decide +kernel
theorem dX10_reads_29 : decode cX10_reads 29 = .ok (.aload_n 0, 1) := by decide +kernel
theorem dX10_reads_30 : decode cX10_reads 30 = .ok (.getfield 112, 3) := by decide +kernel
theorem dX10_reads_33 : decode cX10_reads 33 = .ok (.if_icmp .ge 53, 3) := by decide +kernel
theorem dX10_reads_36 : decode cX10_reads 36 = .ok (.iconst (-1), 1) := by decide +kernel
theorem dX10_reads_37 : decode cX10_reads 37 = .ok (.istore_n 2, 1) := by decide +kernel
theorem dX10_reads_38 : decode cX10_reads 38 = .ok (.aload_n 0, 1) := by decide +kernel
theorem dX10_reads_39 : decode cX10_reads 39 = .ok (.getfield 7, 3) := by decide +kernel
theorem dX10_reads_42 : decode cX10_reads 42 = .ok (.iload_n 1, 1) := by decide +kernel
theorem dX10_reads_43 : decode cX10_reads 43 = .ok (.iaload, 1) := by decide +kernel
theorem dX10_reads_44 : decode cX10_reads 44 = .ok (.bipush 115, 2) := by decide +kernel
theorem dX10_reads_46 : decode cX10_reads 46 = .ok (.if_icmp .ne 12, 3) := by decide +kernel
theorem dX10_reads_49 : decode cX10_reads 49 = .ok (.aload_n 0, 1) := by decide +kernel
theorem dX10_reads_50 : decode cX10_reads 50 = .ok (.iload_n 1, 1) := by decide +kernel
theorem dX10_reads_51 : decode cX10_reads 51 = .ok (.invokevirtual 129, 3) := by decide +kernel
theorem dX10_reads_54 : decode cX10_reads 54 = .ok (.istore_n 2, 1) := by decide +kernel
theorem dX10_reads_55 : decode cX10_reads 55 = .ok (.goto 20, 3) := by decide +kernel
theorem dX10_reads_58 : decode cX10_reads 58 = .ok (.aload_n 0, 1) := by decide +kernel
theorem dX10_reads_59 : decode cX10_reads 59 = .ok (.getfield 7, 3) := by decide +kernel
theorem dX10_reads_62 : decode cX10_reads 62 = .ok (.iload_n 1, 1) := by decide +kernel
theorem dX10_reads_63 : decode cX10_reads 63 = .ok (.iaload, 1) := by decide +kernel
theorem dX10_reads_64 : decode cX10_reads 64 = .ok (.bipush 119, 2) := by decide +kernel
theorem dX10_reads_66 : decode cX10_reads 66 = .ok (.if_icmp .ne 9, 3) := by decide +kernel
theorem dX10_reads_69 : decode cX10_reads 69 = .ok (.aload_n 0, 1) := by decide +kernel
theorem dX10_reads_70 : decode cX10_reads 70 = .ok (.iload_n 1, 1) := by decide +kernel
theorem dX10_reads_71 : decode cX10_reads 71 = .ok (.invokevirtual 132, 3) := by decide +kernel
theorem dX10_reads_74 : decode cX10_reads 74 = .ok (.istore_n 2, 1) := by decide +kernel
theorem dX10_reads_75 : decode cX10_reads 75 = .ok (.iload_n 2, 1) := by decide +kernel
theorem dX10_reads_76 : decode cX10_reads 76 = .ok (.ifCond .ge 5, 3) := by decide +kernel
theorem dX10_reads_79 : decode cX10_reads 79 = .ok (.iload_n 1, 1) := by decide +kernel
theorem dX10_reads_80 : decode cX10_reads 80 = .ok (.ireturn, 1) := by decide +kernel
theorem dX10_reads_81 : decode cX10_reads 81 = .ok (.iload_n 2, 1) := by decide +kernel
theorem dX10_reads_82 : decode cX10_reads 82 = .ok (.istore_n 1, 1) := by decide +kernel
theorem dX10_reads_83 : decode cX10_reads 83 = .ok (.goto (-55), 3) := by decide +kernel
theorem dX10_reads_86 : decode cX10_reads 86 = .ok (.bipush (-4), 2) := by decide +kernel
theorem dX10_reads_88 : decode cX10_reads 88 = .ok (.ireturn, 1) := by decide +kernel
theorem dX10_write_0 : decode cX10_write 0 = .ok (.iload_n 1, 1) := by decide +kernel
theorem dX10_write_1 : decode cX10_write 1 = .ok (.bipush 32, 2) := by decide +kernel
theorem dX10_write_3 : decode cX10_write 3 = .ok (.if_icmp .lt 9, 3) := by decide +kernel
theorem dX10_write_6 : decode cX10_write 6 = .ok (.iload_n 1, 1) := by decide +kernel
theorem dX10_write_7 : decode cX10_write 7 = .ok (.bipush 126, 2) := by decide +kernel
theorem dX10_write_9 : decode cX10_write 9 = .ok (.if_icmp .le 5, 3) := by decide +kernel
theorem dX10_write_12 : decode cX10_write 12 = .ok (.iconst (-1), 1) := by decide +kernel
theorem dX10_write_13 : decode cX10_write 13 = .ok (.ireturn, 1) := by decide +kernel
theorem dX10_write_14 : decode cX10_write 14 = .ok (.aload_n 0, 1) := by decide +kernel
theorem dX10_write_15 : decode cX10_write 15 = .ok (.getfield 112, 3) := by decide +kernel
theorem dX10_write_18 : decode cX10_write 18 = .ok (.sipush 200, 3) := by decide +kernel
theorem dX10_write_21 : decode cX10_write 21 = .ok (.if_icmp .ne 6, 3) := by decide +kernel
theorem dX10_write_24 : decode cX10_write 24 = .ok (.bipush (-3), 2) := by decide +kernel
theorem dX10_write_26 : decode cX10_write 26 = .ok (.ireturn, 1) := by decide +kernel
theorem dX10_write_27 : decode cX10_write 27 = .ok (.aload_n 0, 1) := by decide +kernel
theorem dX10_write_28 : decode cX10_write 28 = .ok (.getfield 7, 3) := by decide +kernel
theorem dX10_write_31 : decode cX10_write 31 = .ok (.aload_n 0, 1) := by decide +kernel
theorem dX10_write_32 : decode cX10_write 32 = .ok (.getfield 112, 3) := by decide +kernel
theorem dX10_write_35 : decode cX10_write 35 = .ok (.iload_n 1, 1) := by decide +kernel
theorem dX10_write_36 : decode cX10_write 36 = .ok (.iastore, 1) := by decide +kernel
theorem dX10_write_37 : decode cX10_write 37 = .ok (.aload_n 0, 1) := by decide +kernel
theorem dX10_write_38 : decode cX10_write 38 = .ok (.dup, 1) := by decide +kernel
theorem dX10_write_39 : decode cX10_write 39 = .ok (.getfield 112, 3) := by decide +kernel
theorem dX10_write_42 : decode cX10_write 42 = .ok (.iconst 1, 1) := by decide +kernel
theorem dX10_write_43 : decode cX10_write 43 = .ok (.iadd, 1) := by decide +kernel
theorem dX10_write_44 : decode cX10_write 44 = .ok (.putfield 112, 3) := by decide +kernel
theorem dX10_write_47 : decode cX10_write 47 = .ok (.aload_n 0, 1) := by decide +kernel
theorem dX10_write_48 : decode cX10_write 48 = .ok (.getfield 112, 3) := by decide +kernel
theorem dX10_write_51 : decode cX10_write 51 = .ok (.ireturn, 1) := by decide +kernel
theorem dX10_wipe_0 : decode cX10_wipe 0 = .ok (.aload_n 0, 1) := by decide +kernel
theorem dX10_wipe_1 : decode cX10_wipe 1 = .ok (.getfield 112, 3) := by decide +kernel
theorem dX10_wipe_4 : decode cX10_wipe 4 = .ok (.istore_n 1, 1) := by decide +kernel
theorem dX10_wipe_5 : decode cX10_wipe 5 = .ok (.aload_n 0, 1) := by decide +kernel
theorem dX10_wipe_6 : decode cX10_wipe 6 = .ok (.iconst 0, 1) := by decide +kernel
theorem dX10_wipe_7 : decode cX10_wipe 7 = .ok (.putfield 112, 3) := by decide +kernel
theorem dX10_wipe_10 : decode cX10_wipe 10 = .ok (.iload_n 1, 1) := by decide +kernel
theorem dX10_wipe_11 : decode cX10_wipe 11 = .ok (.ireturn, 1) := by decide +kernel
theorem dX10_fault_0 : decode cX10_fault 0 = .ok (.aload_n 0, 1) := by decide +kernel
theorem dX10_fault_1 : decode cX10_fault 1 = .ok (.invokevirtual 135, 3) := by decide +kernel
theorem dX10_fault_4 : decode cX10_fault 4 = .ok (.ireturn, 1) := by decide +kernel
theorem dX10_lay_0 : decode cX10_lay 0 = .ok (.aload_n 0, 1) := by decide +kernel
theorem dX10_lay_1 : decode cX10_lay 1 = .ok (.invokevirtual 135, 3) := by decide +kernel
theorem dX10_lay_4 : decode cX10_lay 4 = .ok (.bipush (-4), 2) := by decide +kernel
theorem dX10_lay_6 : decode cX10_lay 6 = .ok (.if_icmp .ne 10, 3) := by decide +kernel
theorem dX10_lay_9 : decode cX10_lay 9 = .ok (.aload_n 0, 1) := by decide +kernel
theorem dX10_lay_10 : decode cX10_lay 10 = .ok (.getfield 119, 3) := by decide +kernel
theorem dX10_lay_13 : decode cX10_lay 13 = .ok (.ifCond .ne 6, 3) := by decide +kernel
theorem dX10_lay_16 : decode cX10_lay 16 = .ok (.bipush (-2), 2) := by decide +kernel
theorem dX10_lay_18 : decode cX10_lay 18 = .ok (.ireturn, 1) := by decide +kernel
theorem dX10_lay_19 : decode cX10_lay 19 = .ok (.aload_n 0, 1) := by decide +kernel
theorem dX10_lay_20 : decode cX10_lay 20 = .ok (.aload_n 0, 1) := by decide +kernel
theorem dX10_lay_21 : decode cX10_lay 21 = .ok (.getfield 119, 3) := by decide +kernel
theorem dX10_lay_24 : decode cX10_lay 24 = .ok (.putfield 99, 3) := by decide +kernel
theorem dX10_lay_27 : decode cX10_lay 27 = .ok (.iconst 0, 1) := by decide +kernel
theorem dX10_lay_28 : decode cX10_lay 28 = .ok (.istore_n 1, 1) := by decide +kernel
theorem dX10_lay_29 : decode cX10_lay 29 = .ok (.iload_n 1, 1) := by decide +kernel
theorem dX10_lay_30 : decode cX10_lay 30 = .ok (.aload_n 0, 1) := by decide +kernel
theorem dX10_lay_31 : decode cX10_lay 31 = .ok (.getfield 99, 3) := by decide +kernel
theorem dX10_lay_34 : decode cX10_lay 34 = .ok (.if_icmp .ge 100, 3) := by decide +kernel
theorem dX10_lay_37 : decode cX10_lay 37 = .ok (.aload_n 0, 1) := by decide +kernel
theorem dX10_lay_38 : decode cX10_lay 38 = .ok (.getfield 16, 3) := by decide +kernel
theorem dX10_lay_41 : decode cX10_lay 41 = .ok (.iload_n 1, 1) := by decide +kernel
theorem dX10_lay_42 : decode cX10_lay 42 = .ok (.aload_n 0, 1) := by decide +kernel
theorem dX10_lay_43 : decode cX10_lay 43 = .ok (.getfield 34, 3) := by decide +kernel
theorem dX10_lay_46 : decode cX10_lay 46 = .ok (.iload_n 1, 1) := by decide +kernel
theorem dX10_lay_47 : decode cX10_lay 47 = .ok (.iaload, 1) := by decide +kernel
theorem dX10_lay_48 : decode cX10_lay 48 = .ok (.iastore, 1) := by decide +kernel
theorem dX10_lay_49 : decode cX10_lay 49 = .ok (.aload_n 0, 1) := by decide +kernel
theorem dX10_lay_50 : decode cX10_lay 50 = .ok (.getfield 19, 3) := by decide +kernel
theorem dX10_lay_53 : decode cX10_lay 53 = .ok (.iload_n 1, 1) := by decide +kernel
theorem dX10_lay_54 : decode cX10_lay 54 = .ok (.aload_n 0, 1) := by decide +kernel
theorem dX10_lay_55 : decode cX10_lay 55 = .ok (.getfield 37, 3) := by decide +kernel
theorem dX10_lay_58 : decode cX10_lay 58 = .ok (.iload_n 1, 1) := by decide +kernel
theorem dX10_lay_59 : decode cX10_lay 59 = .ok (.iaload, 1) := by decide +kernel
theorem dX10_lay_60 : decode cX10_lay 60 = .ok (.iastore, 1) := by decide +kernel
theorem dX10_lay_61 : decode cX10_lay 61 = .ok (.aload_n 0, 1) := by decide +kernel
theorem dX10_lay_62 : decode cX10_lay 62 = .ok (.getfield 22, 3) := by decide +kernel
theorem dX10_lay_65 : decode cX10_lay 65 = .ok (.iload_n 1, 1) := by decide +kernel
theorem dX10_lay_66 : decode cX10_lay 66 = .ok (.aload_n 0, 1) := by decide +kernel
theorem dX10_lay_67 : decode cX10_lay 67 = .ok (.getfield 102, 3) := by decide +kernel
theorem dX10_lay_70 : decode cX10_lay 70 = .ok (.iastore, 1) := by decide +kernel
theorem dX10_lay_71 : decode cX10_lay 71 = .ok (.aload_n 0, 1) := by decide +kernel
theorem dX10_lay_72 : decode cX10_lay 72 = .ok (.dup, 1) := by decide +kernel
theorem dX10_lay_73 : decode cX10_lay 73 = .ok (.getfield 102, 3) := by decide +kernel
theorem dX10_lay_76 : decode cX10_lay 76 = .ok (.iconst 1, 1) := by decide +kernel
theorem dX10_lay_77 : decode cX10_lay 77 = .ok (.iadd, 1) := by decide +kernel
theorem dX10_lay_78 : decode cX10_lay 78 = .ok (.putfield 102, 3) := by decide +kernel
theorem dX10_lay_81 : decode cX10_lay 81 = .ok (.aload_n 0, 1) := by decide +kernel
theorem dX10_lay_82 : decode cX10_lay 82 = .ok (.getfield 25, 3) := by decide +kernel
theorem dX10_lay_85 : decode cX10_lay 85 = .ok (.iload_n 1, 1) := by decide +kernel
theorem dX10_lay_86 : decode cX10_lay 86 = .ok (.iconst 0, 1) := by decide +kernel
theorem dX10_lay_87 : decode cX10_lay 87 = .ok (.iastore, 1) := by decide +kernel
theorem dX10_lay_88 : decode cX10_lay 88 = .ok (.iconst 0, 1) := by decide +kernel
theorem dX10_lay_89 : decode cX10_lay 89 = .ok (.istore_n 2, 1) := by decide +kernel
theorem dX10_lay_90 : decode cX10_lay 90 = .ok (.iload_n 2, 1) := by decide +kernel
theorem dX10_lay_91 : decode cX10_lay 91 = .ok (.aload_n 0, 1) := by decide +kernel
theorem dX10_lay_92 : decode cX10_lay 92 = .ok (.getfield 16, 3) := by decide +kernel
theorem dX10_lay_95 : decode cX10_lay 95 = .ok (.iload_n 1, 1) := by decide +kernel
theorem dX10_lay_96 : decode cX10_lay 96 = .ok (.iaload, 1) := by decide +kernel
theorem dX10_lay_97 : decode cX10_lay 97 = .ok (.if_icmp .ge 31, 3) := by decide +kernel
theorem dX10_lay_100 : decode cX10_lay 100 = .ok (.aload_n 0, 1) := by decide +kernel
theorem dX10_lay_101 : decode cX10_lay 101 = .ok (.getfield 13, 3) := by decide +kernel
theorem dX10_lay_104 : decode cX10_lay 104 = .ok (.bipush 12, 2) := by decide +kernel
theorem dX10_lay_106 : decode cX10_lay 106 = .ok (.iload_n 1, 1) := by decide +kernel
theorem dX10_lay_107 : decode cX10_lay 107 = .ok (.imul, 1) := by decide +kernel
theorem dX10_lay_108 : decode cX10_lay 108 = .ok (.iload_n 2, 1) := by decide +kernel
theorem dX10_lay_109 : decode cX10_lay 109 = .ok (.iadd, 1) := by decide +kernel
theorem dX10_lay_110 : decode cX10_lay 110 = .ok (.aload_n 0, 1) := by decide +kernel
theorem dX10_lay_111 : decode cX10_lay 111 = .ok (.getfield 31, 3) := by decide +kernel
theorem dX10_lay_114 : decode cX10_lay 114 = .ok (.bipush 12, 2) := by decide +kernel
theorem dX10_lay_116 : decode cX10_lay 116 = .ok (.iload_n 1, 1) := by decide +kernel
theorem dX10_lay_117 : decode cX10_lay 117 = .ok (.imul, 1) := by decide +kernel
theorem dX10_lay_118 : decode cX10_lay 118 = .ok (.iload_n 2, 1) := by decide +kernel
theorem dX10_lay_119 : decode cX10_lay 119 = .ok (.iadd, 1) := by decide +kernel
theorem dX10_lay_120 : decode cX10_lay 120 = .ok (.iaload, 1) := by decide +kernel
theorem dX10_lay_121 : decode cX10_lay 121 = .ok (.iastore, 1) := by decide +kernel
theorem dX10_lay_122 : decode cX10_lay 122 = .ok (.iinc 2 1, 3) := by decide +kernel
theorem dX10_lay_125 : decode cX10_lay 125 = .ok (.goto (-35), 3) := by decide +kernel
theorem dX10_lay_128 : decode cX10_lay 128 = .ok (.iinc 1 1, 3) := by decide +kernel
theorem dX10_lay_131 : decode cX10_lay 131 = .ok (.goto (-102), 3) := by decide +kernel
theorem dX10_lay_134 : decode cX10_lay 134 = .ok (.iconst 0, 1) := by decide +kernel
theorem dX10_lay_135 : decode cX10_lay 135 = .ok (.istore_n 1, 1) := by decide +kernel
theorem dX10_lay_136 : decode cX10_lay 136 = .ok (.iload_n 1, 1) := by decide +kernel
theorem dX10_lay_137 : decode cX10_lay 137 = .ok (.iconst 3, 1) := by decide +kernel
theorem dX10_lay_138 : decode cX10_lay 138 = .ok (.if_icmp .ge 21, 3) := by decide +kernel
theorem dX10_lay_141 : decode cX10_lay 141 = .ok (.aload_n 0, 1) := by decide +kernel
theorem dX10_lay_142 : decode cX10_lay 142 = .ok (.getfield 28, 3) := by decide +kernel
theorem dX10_lay_145 : decode cX10_lay 145 = .ok (.iload_n 1, 1) := by decide +kernel
theorem dX10_lay_146 : decode cX10_lay 146 = .ok (.aload_n 0, 1) := by decide +kernel
theorem dX10_lay_147 : decode cX10_lay 147 = .ok (.getfield 40, 3) := by decide +kernel
theorem dX10_lay_150 : decode cX10_lay 150 = .ok (.iload_n 1, 1) := by decide +kernel
theorem dX10_lay_151 : decode cX10_lay 151 = .ok (.iaload, 1) := by decide +kernel
theorem dX10_lay_152 : decode cX10_lay 152 = .ok (.iastore, 1) := by decide +kernel
theorem dX10_lay_153 : decode cX10_lay 153 = .ok (.iinc 1 1, 3) := by decide +kernel
theorem dX10_lay_156 : decode cX10_lay 156 = .ok (.goto (-20), 3) := by decide +kernel
theorem dX10_lay_159 : decode cX10_lay 159 = .ok (.aload_n 0, 1) := by decide +kernel
theorem dX10_lay_160 : decode cX10_lay 160 = .ok (.dup, 1) := by decide +kernel
theorem dX10_lay_161 : decode cX10_lay 161 = .ok (.getfield 52, 3) := by decide +kernel
theorem dX10_lay_164 : decode cX10_lay 164 = .ok (.iconst 1, 1) := by decide +kernel
theorem dX10_lay_165 : decode cX10_lay 165 = .ok (.iadd, 1) := by decide +kernel
theorem dX10_lay_166 : decode cX10_lay 166 = .ok (.putfield 52, 3) := by decide +kernel
theorem dX10_lay_169 : decode cX10_lay 169 = .ok (.aload_n 0, 1) := by decide +kernel
theorem dX10_lay_170 : decode cX10_lay 170 = .ok (.iconst 0, 1) := by decide +kernel
theorem dX10_lay_171 : decode cX10_lay 171 = .ok (.putfield 139, 3) := by decide +kernel
theorem dX10_lay_174 : decode cX10_lay 174 = .ok (.aload_n 0, 1) := by decide +kernel
theorem dX10_lay_175 : decode cX10_lay 175 = .ok (.iconst 0, 1) := by decide +kernel
theorem dX10_lay_176 : decode cX10_lay 176 = .ok (.putfield 142, 3) := by decide +kernel
theorem dX10_lay_179 : decode cX10_lay 179 = .ok (.aload_n 0, 1) := by decide +kernel
theorem dX10_lay_180 : decode cX10_lay 180 = .ok (.getfield 99, 3) := by decide +kernel
theorem dX10_lay_183 : decode cX10_lay 183 = .ok (.ireturn, 1) := by decide +kernel
theorem dX10_isName_0 : decode cX10_isName 0 = .ok (.iload_n 1, 1) := by decide +kernel
theorem dX10_isName_1 : decode cX10_isName 1 = .ok (.ifCond .lt 15, 3) := by decide +kernel
theorem dX10_isName_4 : decode cX10_isName 4 = .ok (.iload_n 1, 1) := by decide +kernel
theorem dX10_isName_5 : decode cX10_isName 5 = .ok (.aload_n 0, 1) := by decide +kernel
theorem dX10_isName_6 : decode cX10_isName 6 = .ok (.getfield 99, 3) := by decide +kernel
theorem dX10_isName_9 : decode cX10_isName 9 = .ok (.if_icmp .ge 7, 3) := by decide +kernel
theorem dX10_isName_12 : decode cX10_isName 12 = .ok (.iconst 1, 1) := by decide +kernel
theorem dX10_isName_13 : decode cX10_isName 13 = .ok (.goto 4, 3) := by decide +kernel
theorem dX10_isName_16 : decode cX10_isName 16 = .ok (.iconst 0, 1) := by decide +kernel
theorem dX10_isName_17 : decode cX10_isName 17 = .ok (.ireturn, 1) := by decide +kernel
theorem dX10_isBeginning_0 : decode cX10_isBeginning 0 = .ok (.aload_n 0, 1) := by decide +kernel
theorem dX10_isBeginning_1 : decode cX10_isBeginning 1 = .ok (.getfield 13, 3) := by decide +kernel
theorem dX10_isBeginning_4 : decode cX10_isBeginning 4 = .ok (.bipush 12, 2) := by decide +kernel
theorem dX10_isBeginning_6 : decode cX10_isBeginning 6 = .ok (.iload_n 1, 1) := by decide +kernel
theorem dX10_isBeginning_7 : decode cX10_isBeginning 7 = .ok (.imul, 1) := by decide +kernel
theorem dX10_isBeginning_8 : decode cX10_isBeginning 8 = .ok (.iload_n 2, 1) := by decide +kernel
theorem dX10_isBeginning_9 : decode cX10_isBeginning 9 = .ok (.iadd, 1) := by decide +kernel
theorem dX10_isBeginning_10 : decode cX10_isBeginning 10 = .ok (.iaload, 1) := by decide +kernel
theorem dX10_isBeginning_11 : decode cX10_isBeginning 11 = .ok (.istore_n 3, 1) := by decide +kernel
theorem dX10_isBeginning_12 : decode cX10_isBeginning 12 = .ok (.iload_n 3, 1) := by decide +kernel
theorem dX10_isBeginning_13 : decode cX10_isBeginning 13 = .ok (.bipush 95, 2) := by decide +kernel
theorem dX10_isBeginning_15 : decode cX10_isBeginning 15 = .ok (.if_icmp .ne 5, 3) := by decide +kernel
theorem dX10_isBeginning_18 : decode cX10_isBeginning 18 = .ok (.iconst 0, 1) := by decide +kernel
theorem dX10_isBeginning_19 : decode cX10_isBeginning 19 = .ok (.ireturn, 1) := by decide +kernel
theorem dX10_isBeginning_20 : decode cX10_isBeginning 20 = .ok (.iload_n 2, 1) := by decide +kernel
theorem dX10_isBeginning_21 : decode cX10_isBeginning 21 = .ok (.ifCond .ne 5, 3) := by decide +kernel
theorem dX10_isBeginning_24 : decode cX10_isBeginning 24 = .ok (.iconst 1, 1) := by decide +kernel
theorem dX10_isBeginning_25 : decode cX10_isBeginning 25 = .ok (.ireturn, 1) := by decide +kernel
theorem dX10_isBeginning_26 : decode cX10_isBeginning 26 = .ok (.aload_n 0, 1) := by decide +kernel
theorem dX10_isBeginning_27 : decode cX10_isBeginning 27 = .ok (.getfield 13, 3) := by decide +kernel
theorem dX10_isBeginning_30 : decode cX10_isBeginning 30 = .ok (.bipush 12, 2) := by decide +kernel
theorem dX10_isBeginning_32 : decode cX10_isBeginning 32 = .ok (.iload_n 1, 1) := by decide +kernel
theorem dX10_isBeginning_33 : decode cX10_isBeginning 33 = .ok (.imul, 1) := by decide +kernel
theorem dX10_isBeginning_34 : decode cX10_isBeginning 34 = .ok (.iload_n 2, 1) := by decide +kernel
theorem dX10_isBeginning_35 : decode cX10_isBeginning 35 = .ok (.iadd, 1) := by decide +kernel
theorem dX10_isBeginning_36 : decode cX10_isBeginning 36 = .ok (.iconst 1, 1) := by decide +kernel
theorem dX10_isBeginning_37 : decode cX10_isBeginning 37 = .ok (.isub, 1) := by decide +kernel
theorem dX10_isBeginning_38 : decode cX10_isBeginning 38 = .ok (.iaload, 1) := by decide +kernel
theorem dX10_isBeginning_39 : decode cX10_isBeginning 39 = .ok (.istore 4, 2) := by decide +kernel
theorem dX10_isBeginning_41 : decode cX10_isBeginning 41 = .ok (.iload 4, 2) := by decide +kernel
theorem dX10_isBeginning_43 : decode cX10_isBeginning 43 = .ok (.bipush 95, 2) := by decide +kernel
theorem dX10_isBeginning_45 : decode cX10_isBeginning 45 = .ok (.if_icmp .eq 18, 3) := by decide +kernel
theorem dX10_isBeginning_48 : decode cX10_isBeginning 48 = .ok (.iload_n 3, 1) := by decide +kernel
theorem dX10_isBeginning_49 : decode cX10_isBeginning 49 = .ok (.invokestatic 109, 3) := by decide +kernel
theorem dX10_isBeginning_52 : decode cX10_isBeginning 52 = .ok (.ifCond .eq 15, 3) := by decide +kernel
theorem dX10_isBeginning_55 : decode cX10_isBeginning 55 = .ok (.iload 4, 2) := by decide +kernel
theorem dX10_isBeginning_57 : decode cX10_isBeginning 57 = .ok (.invokestatic 105, 3) := by decide +kernel
theorem dX10_isBeginning_60 : decode cX10_isBeginning 60 = .ok (.ifCond .eq 7, 3) := by decide +kernel
theorem dX10_isBeginning_63 : decode cX10_isBeginning 63 = .ok (.iconst 1, 1) := by decide +kernel
theorem dX10_isBeginning_64 : decode cX10_isBeginning 64 = .ok (.goto 4, 3) := by decide +kernel
theorem dX10_isBeginning_67 : decode cX10_isBeginning 67 = .ok (.iconst 0, 1) := by decide +kernel
theorem dX10_isBeginning_68 : decode cX10_isBeginning 68 = .ok (.ireturn, 1) := by decide +kernel
theorem dX10_name_0 : decode cX10_name 0 = .ok (.aload_n 0, 1) := by decide +kernel
theorem dX10_name_1 : decode cX10_name 1 = .ok (.iload_n 1, 1) := by decide +kernel
theorem dX10_name_2 : decode cX10_name 2 = .ok (.invokevirtual 145, 3) := by decide +kernel
theorem dX10_name_5 : decode cX10_name 5 = .ok (.ifCond .eq 12, 3) := by decide +kernel
theorem dX10_name_8 : decode cX10_name 8 = .ok (.iload_n 2, 1) := by decide +kernel
theorem dX10_name_9 : decode cX10_name 9 = .ok (.ifCond .lt 8, 3) := by decide +kernel
theorem dX10_name_12 : decode cX10_name 12 = .ok (.iload_n 2, 1) := by decide +kernel
theorem dX10_name_13 : decode cX10_name 13 = .ok (.iconst 4, 1) := by decide +kernel
theorem dX10_name_14 : decode cX10_name 14 = .ok (.if_icmp .le 5, 3) := by decide +kernel
theorem dX10_name_17 : decode cX10_name 17 = .ok (.iconst (-1), 1) := by decide +kernel
theorem dX10_name_18 : decode cX10_name 18 = .ok (.ireturn, 1) := by decide +kernel
theorem dX10_name_19 : decode cX10_name 19 = .ok (.iload_n 2, 1) := by decide +kernel
theorem dX10_name_20 : decode cX10_name 20 = .ok (.ifCond .ne 10, 3) := by decide +kernel
theorem dX10_name_23 : decode cX10_name 23 = .ok (.aload_n 0, 1) := by decide +kernel
theorem dX10_name_24 : decode cX10_name 24 = .ok (.getfield 19, 3) := by decide +kernel
theorem dX10_name_27 : decode cX10_name 27 = .ok (.iload_n 1, 1) := by decide +kernel
theorem dX10_name_28 : decode cX10_name 28 = .ok (.iaload, 1) := by decide +kernel
theorem dX10_name_29 : decode cX10_name 29 = .ok (.ireturn, 1) := by decide +kernel
theorem dX10_name_30 : decode cX10_name 30 = .ok (.iload_n 2, 1) := by decide +kernel
theorem dX10_name_31 : decode cX10_name 31 = .ok (.iconst 1, 1) := by decide +kernel
theorem dX10_name_32 : decode cX10_name 32 = .ok (.if_icmp .ne 10, 3) := by decide +kernel
theorem dX10_name_35 : decode cX10_name 35 = .ok (.aload_n 0, 1) := by decide +kernel
theorem dX10_name_36 : decode cX10_name 36 = .ok (.getfield 16, 3) := by decide +kernel
theorem dX10_name_39 : decode cX10_name 39 = .ok (.iload_n 1, 1) := by decide +kernel
theorem dX10_name_40 : decode cX10_name 40 = .ok (.iaload, 1) := by decide +kernel
theorem dX10_name_41 : decode cX10_name 41 = .ok (.ireturn, 1) := by decide +kernel
theorem dX10_name_42 : decode cX10_name 42 = .ok (.iload_n 2, 1) := by decide +kernel
theorem dX10_name_43 : decode cX10_name 43 = .ok (.iconst 2, 1) := by decide +kernel
theorem dX10_name_44 : decode cX10_name 44 = .ok (.if_icmp .ne 10, 3) := by decide +kernel
theorem dX10_name_47 : decode cX10_name 47 = .ok (.aload_n 0, 1) := by decide +kernel
theorem dX10_name_48 : decode cX10_name 48 = .ok (.getfield 22, 3) := by decide +kernel
theorem dX10_name_51 : decode cX10_name 51 = .ok (.iload_n 1, 1) := by decide +kernel
theorem dX10_name_52 : decode cX10_name 52 = .ok (.iaload, 1) := by decide +kernel
theorem dX10_name_53 : decode cX10_name 53 = .ok (.ireturn, 1) := by decide +kernel
theorem dX10_name_54 : decode cX10_name 54 = .ok (.iload_n 2, 1) := by decide +kernel
theorem dX10_name_55 : decode cX10_name 55 = .ok (.iconst 3, 1) := by decide +kernel
theorem dX10_name_56 : decode cX10_name 56 = .ok (.if_icmp .ne 10, 3) := by decide +kernel
theorem dX10_name_59 : decode cX10_name 59 = .ok (.aload_n 0, 1) := by decide +kernel
theorem dX10_name_60 : decode cX10_name 60 = .ok (.getfield 25, 3) := by decide +kernel
theorem dX10_name_63 : decode cX10_name 63 = .ok (.iload_n 1, 1) := by decide +kernel
theorem dX10_name_64 : decode cX10_name 64 = .ok (.iaload, 1) := by decide +kernel
theorem dX10_name_65 : decode cX10_name 65 = .ok (.ireturn, 1) := by decide +kernel
theorem dX10_name_66 : decode cX10_name 66 = .ok (.iconst 0, 1) := by decide +kernel
theorem dX10_name_67 : decode cX10_name 67 = .ok (.istore_n 3, 1) := by decide +kernel
theorem dX10_name_68 : decode cX10_name 68 = .ok (.iconst 0, 1) := by decide +kernel
theorem dX10_name_69 : decode cX10_name 69 = .ok (.istore 4, 2) := by decide +kernel
theorem dX10_name_71 : decode cX10_name 71 = .ok (.iload 4, 2) := by decide +kernel
theorem dX10_name_73 : decode cX10_name 73 = .ok (.aload_n 0, 1) := by decide +kernel
theorem dX10_name_74 : decode cX10_name 74 = .ok (.getfield 16, 3) := by decide +kernel
theorem dX10_name_77 : decode cX10_name 77 = .ok (.iload_n 1, 1) := by decide +kernel
theorem dX10_name_78 : decode cX10_name 78 = .ok (.iaload, 1) := by decide +kernel
theorem dX10_name_79 : decode cX10_name 79 = .ok (.if_icmp .ge 26, 3) := by decide +kernel
theorem dX10_name_82 : decode cX10_name 82 = .ok (.aload_n 0, 1) := by decide +kernel
theorem dX10_name_83 : decode cX10_name 83 = .ok (.iload_n 1, 1) := by decide +kernel
theorem dX10_name_84 : decode cX10_name 84 = .ok (.iload 4, 2) := by decide +kernel
theorem dX10_name_86 : decode cX10_name 86 = .ok (.invokevirtual 148, 3) := by decide +kernel
theorem dX10_name_89 : decode cX10_name 89 = .ok (.ifCond .eq 10, 3) := by decide +kernel
theorem dX10_name_92 : decode cX10_name 92 = .ok (.iload_n 3, 1) := by decide +kernel
theorem dX10_name_93 : decode cX10_name 93 = .ok (.iconst 1, 1) := by decide +kernel
theorem dX10_name_94 : decode cX10_name 94 = .ok (.iload 4, 2) := by decide +kernel
theorem dX10_name_96 : decode cX10_name 96 = .ok (.ishl, 1) := by decide +kernel
theorem dX10_name_97 : decode cX10_name 97 = .ok (.iadd, 1) := by decide +kernel
theorem dX10_name_98 : decode cX10_name 98 = .ok (.istore_n 3, 1) := by decide +kernel
theorem dX10_name_99 : decode cX10_name 99 = .ok (.iinc 4 1, 3) := by decide +kernel
theorem dX10_name_102 : decode cX10_name 102 = .ok (.goto (-31), 3) := by decide +kernel
theorem dX10_name_105 : decode cX10_name 105 = .ok (.iload_n 3, 1) := by decide +kernel
theorem dX10_name_106 : decode cX10_name 106 = .ok (.ireturn, 1) := by decide +kernel
theorem dX10_sign_0 : decode cX10_sign 0 = .ok (.aload_n 0, 1) := by decide +kernel
theorem dX10_sign_1 : decode cX10_sign 1 = .ok (.iload_n 1, 1) := by decide +kernel
theorem dX10_sign_2 : decode cX10_sign 2 = .ok (.invokevirtual 145, 3) := by decide +kernel
theorem dX10_sign_5 : decode cX10_sign 5 = .ok (.ifCond .eq 7, 3) := by decide +kernel
theorem dX10_sign_8 : decode cX10_sign 8 = .ok (.iload_n 2, 1) := by decide +kernel
theorem dX10_sign_9 : decode cX10_sign 9 = .ok (.ifCond .ge 5, 3) := by decide +kernel
theorem dX10_sign_12 : decode cX10_sign 12 = .ok (.iconst (-1), 1) := by decide +kernel
theorem dX10_sign_13 : decode cX10_sign 13 = .ok (.ireturn, 1) := by decide +kernel
theorem dX10_sign_14 : decode cX10_sign 14 = .ok (.iload_n 2, 1) := by decide +kernel
theorem dX10_sign_15 : decode cX10_sign 15 = .ok (.aload_n 0, 1) := by decide +kernel
theorem dX10_sign_16 : decode cX10_sign 16 = .ok (.getfield 16, 3) := by decide +kernel
theorem dX10_sign_19 : decode cX10_sign 19 = .ok (.iload_n 1, 1) := by decide +kernel
theorem dX10_sign_20 : decode cX10_sign 20 = .ok (.iaload, 1) := by decide +kernel
theorem dX10_sign_21 : decode cX10_sign 21 = .ok (.if_icmp .ge 17, 3) := by decide +kernel
theorem dX10_sign_24 : decode cX10_sign 24 = .ok (.aload_n 0, 1) := by decide +kernel
theorem dX10_sign_25 : decode cX10_sign 25 = .ok (.getfield 13, 3) := by decide +kernel
theorem dX10_sign_28 : decode cX10_sign 28 = .ok (.bipush 12, 2) := by decide +kernel
theorem dX10_sign_30 : decode cX10_sign 30 = .ok (.iload_n 1, 1) := by decide +kernel
theorem dX10_sign_31 : decode cX10_sign 31 = .ok (.imul, 1) := by decide +kernel
theorem dX10_sign_32 : decode cX10_sign 32 = .ok (.iload_n 2, 1) := by decide +kernel
theorem dX10_sign_33 : decode cX10_sign 33 = .ok (.iadd, 1) := by decide +kernel
theorem dX10_sign_34 : decode cX10_sign 34 = .ok (.iaload, 1) := by decide +kernel
theorem dX10_sign_35 : decode cX10_sign 35 = .ok (.goto 5, 3) := by decide +kernel
theorem dX10_sign_38 : decode cX10_sign 38 = .ok (.bipush (-4), 2) := by decide +kernel
theorem dX10_sign_40 : decode cX10_sign 40 = .ok (.ireturn, 1) := by decide +kernel
theorem dX10_type_0 : decode cX10_type 0 = .ok (.iload_n 1, 1) := by decide +kernel
theorem dX10_type_1 : decode cX10_type 1 = .ok (.invokestatic 105, 3) := by decide +kernel
theorem dX10_type_4 : decode cX10_type 4 = .ok (.ifCond .ne 12, 3) := by decide +kernel
theorem dX10_type_7 : decode cX10_type 7 = .ok (.iload_n 1, 1) := by decide +kernel
theorem dX10_type_8 : decode cX10_type 8 = .ok (.invokestatic 109, 3) := by decide +kernel
theorem dX10_type_11 : decode cX10_type 11 = .ok (.ifCond .ne 5, 3) := by decide +kernel
theorem dX10_type_14 : decode cX10_type 14 = .ok (.iconst (-1), 1) := by decide +kernel
theorem dX10_type_15 : decode cX10_type 15 = .ok (.ireturn, 1) := by decide +kernel
theorem dX10_type_16 : decode cX10_type 16 = .ok (.aload_n 0, 1) := by decide +kernel
theorem dX10_type_17 : decode cX10_type 17 = .ok (.getfield 139, 3) := by decide +kernel
theorem dX10_type_20 : decode cX10_type 20 = .ok (.bipush 6, 2) := by decide +kernel
theorem dX10_type_22 : decode cX10_type 22 = .ok (.if_icmp .ne 6, 3) := by decide +kernel
theorem dX10_type_25 : decode cX10_type 25 = .ok (.bipush (-3), 2) := by decide +kernel
theorem dX10_type_27 : decode cX10_type 27 = .ok (.ireturn, 1) := by decide +kernel
theorem dX10_type_28 : decode cX10_type 28 = .ok (.aload_n 0, 1) := by decide +kernel
theorem dX10_type_29 : decode cX10_type 29 = .ok (.getfield 43, 3) := by decide +kernel
theorem dX10_type_32 : decode cX10_type 32 = .ok (.aload_n 0, 1) := by decide +kernel
theorem dX10_type_33 : decode cX10_type 33 = .ok (.getfield 139, 3) := by decide +kernel
theorem dX10_type_36 : decode cX10_type 36 = .ok (.iload_n 1, 1) := by decide +kernel
theorem dX10_type_37 : decode cX10_type 37 = .ok (.iastore, 1) := by decide +kernel
theorem dX10_type_38 : decode cX10_type 38 = .ok (.aload_n 0, 1) := by decide +kernel
theorem dX10_type_39 : decode cX10_type 39 = .ok (.dup, 1) := by decide +kernel
theorem dX10_type_40 : decode cX10_type 40 = .ok (.getfield 139, 3) := by decide +kernel
theorem dX10_type_43 : decode cX10_type 43 = .ok (.iconst 1, 1) := by decide +kernel
theorem dX10_type_44 : decode cX10_type 44 = .ok (.iadd, 1) := by decide +kernel
theorem dX10_type_45 : decode cX10_type 45 = .ok (.putfield 139, 3) := by decide +kernel
theorem dX10_type_48 : decode cX10_type 48 = .ok (.aload_n 0, 1) := by decide +kernel
theorem dX10_type_49 : decode cX10_type 49 = .ok (.getfield 139, 3) := by decide +kernel
theorem dX10_type_52 : decode cX10_type 52 = .ok (.ireturn, 1) := by decide +kernel
theorem dX10_untype_0 : decode cX10_untype 0 = .ok (.aload_n 0, 1) := by decide +kernel
theorem dX10_untype_1 : decode cX10_untype 1 = .ok (.getfield 139, 3) := by decide +kernel
theorem dX10_untype_4 : decode cX10_untype 4 = .ok (.ifCond .ne 6, 3) := by decide +kernel
theorem dX10_untype_7 : decode cX10_untype 7 = .ok (.bipush (-2), 2) := by decide +kernel
theorem dX10_untype_9 : decode cX10_untype 9 = .ok (.ireturn, 1) := by decide +kernel
theorem dX10_untype_10 : decode cX10_untype 10 = .ok (.aload_n 0, 1) := by decide +kernel
theorem dX10_untype_11 : decode cX10_untype 11 = .ok (.dup, 1) := by decide +kernel
theorem dX10_untype_12 : decode cX10_untype 12 = .ok (.getfield 139, 3) := by decide +kernel
theorem dX10_untype_15 : decode cX10_untype 15 = .ok (.iconst 1, 1) := by decide +kernel
theorem dX10_untype_16 : decode cX10_untype 16 = .ok (.isub, 1) := by decide +kernel
theorem dX10_untype_17 : decode cX10_untype 17 = .ok (.putfield 139, 3) := by decide +kernel
theorem dX10_untype_20 : decode cX10_untype 20 = .ok (.aload_n 0, 1) := by decide +kernel
theorem dX10_untype_21 : decode cX10_untype 21 = .ok (.getfield 43, 3) := by decide +kernel
theorem dX10_untype_24 : decode cX10_untype 24 = .ok (.aload_n 0, 1) := by decide +kernel
theorem dX10_untype_25 : decode cX10_untype 25 = .ok (.getfield 139, 3) := by decide +kernel
theorem dX10_untype_28 : decode cX10_untype 28 = .ok (.iaload, 1) := by decide +kernel
theorem dX10_untype_29 : decode cX10_untype 29 = .ok (.ireturn, 1) := by decide +kernel
theorem dX10_roll_0 : decode cX10_roll 0 = .ok (.aload_n 0, 1) := by decide +kernel
theorem dX10_roll_1 : decode cX10_roll 1 = .ok (.getfield 139, 3) := by decide +kernel
theorem dX10_roll_4 : decode cX10_roll 4 = .ok (.bipush 6, 2) := by decide +kernel
theorem dX10_roll_6 : decode cX10_roll 6 = .ok (.if_icmp .ne 6, 3) := by decide +kernel
theorem dX10_roll_9 : decode cX10_roll 9 = .ok (.bipush (-3), 2) := by decide +kernel
theorem dX10_roll_11 : decode cX10_roll 11 = .ok (.ireturn, 1) := by decide +kernel
theorem dX10_roll_12 : decode cX10_roll 12 = .ok (.aload_n 0, 1) := by decide +kernel
theorem dX10_roll_13 : decode cX10_roll 13 = .ok (.sipush 7919, 3) := by decide +kernel
theorem dX10_roll_16 : decode cX10_roll 16 = .ok (.aload_n 0, 1) := by decide +kernel
theorem dX10_roll_17 : decode cX10_roll 17 = .ok (.getfield 56, 3) := by decide +kernel
theorem dX10_roll_20 : decode cX10_roll 20 = .ok (.imul, 1) := by decide +kernel
theorem dX10_roll_21 : decode cX10_roll 21 = .ok (.sipush 12345, 3) := by decide +kernel
theorem dX10_roll_24 : decode cX10_roll 24 = .ok (.iadd, 1) := by decide +kernel
theorem dX10_roll_25 : decode cX10_roll 25 = .ok (.ldc 151, 2) := by decide +kernel
theorem dX10_roll_27 : decode cX10_roll 27 = .ok (.irem, 1) := by decide +kernel
theorem dX10_roll_28 : decode cX10_roll 28 = .ok (.putfield 56, 3) := by decide +kernel
theorem dX10_roll_31 : decode cX10_roll 31 = .ok (.aload_n 0, 1) := by decide +kernel
theorem dX10_roll_32 : decode cX10_roll 32 = .ok (.getfield 43, 3) := by decide +kernel
theorem dX10_roll_35 : decode cX10_roll 35 = .ok (.aload_n 0, 1) := by decide +kernel
theorem dX10_roll_36 : decode cX10_roll 36 = .ok (.getfield 139, 3) := by decide +kernel
theorem dX10_roll_39 : decode cX10_roll 39 = .ok (.bipush 97, 2) := by decide +kernel
theorem dX10_roll_41 : decode cX10_roll 41 = .ok (.aload_n 0, 1) := by decide +kernel
theorem dX10_roll_42 : decode cX10_roll 42 = .ok (.getfield 56, 3) := by decide +kernel
theorem dX10_roll_45 : decode cX10_roll 45 = .ok (.bipush 26, 2) := by decide +kernel
theorem dX10_roll_47 : decode cX10_roll 47 = .ok (.irem, 1) := by decide +kernel
theorem dX10_roll_48 : decode cX10_roll 48 = .ok (.iadd, 1) := by decide +kernel
theorem dX10_roll_49 : decode cX10_roll 49 = .ok (.iastore, 1) := by decide +kernel
theorem dX10_roll_50 : decode cX10_roll 50 = .ok (.aload_n 0, 1) := by decide +kernel
theorem dX10_roll_51 : decode cX10_roll 51 = .ok (.dup, 1) := by decide +kernel
theorem dX10_roll_52 : decode cX10_roll 52 = .ok (.getfield 139, 3) := by decide +kernel
theorem dX10_roll_55 : decode cX10_roll 55 = .ok (.iconst 1, 1) := by decide +kernel
theorem dX10_roll_56 : decode cX10_roll 56 = .ok (.iadd, 1) := by decide +kernel
theorem dX10_roll_57 : decode cX10_roll 57 = .ok (.putfield 139, 3) := by decide +kernel
theorem dX10_roll_60 : decode cX10_roll 60 = .ok (.aload_n 0, 1) := by decide +kernel
theorem dX10_roll_61 : decode cX10_roll 61 = .ok (.getfield 43, 3) := by decide +kernel
theorem dX10_roll_64 : decode cX10_roll 64 = .ok (.aload_n 0, 1) := by decide +kernel
theorem dX10_roll_65 : decode cX10_roll 65 = .ok (.getfield 139, 3) := by decide +kernel
theorem dX10_roll_68 : decode cX10_roll 68 = .ok (.iconst 1, 1) := by decide +kernel
theorem dX10_roll_69 : decode cX10_roll 69 = .ok (.isub, 1) := by decide +kernel
theorem dX10_roll_70 : decode cX10_roll 70 = .ok (.iaload, 1) := by decide +kernel
theorem dX10_roll_71 : decode cX10_roll 71 = .ok (.ireturn, 1) := by decide +kernel
theorem dX10_word_0 : decode cX10_word 0 = .ok (.iload_n 1, 1) := by decide +kernel
theorem dX10_word_1 : decode cX10_word 1 = .ok (.iconst (-1), 1) := by decide +kernel
theorem dX10_word_2 : decode cX10_word 2 = .ok (.if_icmp .ge 5, 3) := by decide +kernel
theorem dX10_word_5 : decode cX10_word 5 = .ok (.iconst (-1), 1) := by decide +kernel
theorem dX10_word_6 : decode cX10_word 6 = .ok (.ireturn, 1) := by decide +kernel
theorem dX10_word_7 : decode cX10_word 7 = .ok (.iload_n 1, 1) := by decide +kernel
theorem dX10_word_8 : decode cX10_word 8 = .ok (.iconst (-1), 1) := by decide +kernel
theorem dX10_word_9 : decode cX10_word 9 = .ok (.if_icmp .ne 8, 3) := by decide +kernel
theorem dX10_word_12 : decode cX10_word 12 = .ok (.aload_n 0, 1) := by decide +kernel
theorem dX10_word_13 : decode cX10_word 13 = .ok (.getfield 139, 3) := by decide +kernel
theorem dX10_word_16 : decode cX10_word 16 = .ok (.ireturn, 1) := by decide +kernel
theorem dX10_word_17 : decode cX10_word 17 = .ok (.iload_n 1, 1) := by decide +kernel
theorem dX10_word_18 : decode cX10_word 18 = .ok (.aload_n 0, 1) := by decide +kernel
theorem dX10_word_19 : decode cX10_word 19 = .ok (.getfield 139, 3) := by decide +kernel
theorem dX10_word_22 : decode cX10_word 22 = .ok (.if_icmp .ge 12, 3) := by decide +kernel
theorem dX10_word_25 : decode cX10_word 25 = .ok (.aload_n 0, 1) := by decide +kernel
theorem dX10_word_26 : decode cX10_word 26 = .ok (.getfield 43, 3) := by decide +kernel
theorem dX10_word_29 : decode cX10_word 29 = .ok (.iload_n 1, 1) := by decide +kernel
theorem dX10_word_30 : decode cX10_word 30 = .ok (.iaload, 1) := by decide +kernel
theorem dX10_word_31 : decode cX10_word 31 = .ok (.goto 5, 3) := by decide +kernel
theorem dX10_word_34 : decode cX10_word 34 = .ok (.bipush (-4), 2) := by decide +kernel
theorem dX10_word_36 : decode cX10_word 36 = .ok (.ireturn, 1) := by decide +kernel
theorem dX10_code_0 : decode cX10_code 0 = .ok (.lconst 0, 1) := by decide +kernel
theorem dX10_code_1 : decode cX10_code 1 = .ok (.lstore_n 1, 1) := by decide +kernel
theorem dX10_code_2 : decode cX10_code 2 = .ok (.iconst 0, 1) := by decide +kernel
theorem dX10_code_3 : decode cX10_code 3 = .ok (.istore_n 3, 1) := by decide +kernel
theorem dX10_code_4 : decode cX10_code 4 = .ok (.iload_n 3, 1) := by decide +kernel
theorem dX10_code_5 : decode cX10_code 5 = .ok (.aload_n 0, 1) := by decide +kernel
theorem dX10_code_6 : decode cX10_code 6 = .ok (.getfield 139, 3) := by decide +kernel
theorem dX10_code_9 : decode cX10_code 9 = .ok (.if_icmp .ge 51, 3) := by decide +kernel
theorem dX10_code_12 : decode cX10_code 12 = .ok (.aload_n 0, 1) := by decide +kernel
theorem dX10_code_13 : decode cX10_code 13 = .ok (.getfield 43, 3) := by decide +kernel
theorem dX10_code_16 : decode cX10_code 16 = .ok (.iload_n 3, 1) := by decide +kernel
theorem dX10_code_17 : decode cX10_code 17 = .ok (.iaload, 1) := by decide +kernel
theorem dX10_code_18 : decode cX10_code 18 = .ok (.istore 4, 2) := by decide +kernel
theorem dX10_code_20 : decode cX10_code 20 = .ok (.ldc2_w 152, 3) := by decide +kernel
theorem dX10_code_23 : decode cX10_code 23 = .ok (.lload_n 1, 1) := by decide +kernel
theorem dX10_code_24 : decode cX10_code 24 = .ok (.lmul, 1) := by decide +kernel
theorem dX10_code_25 : decode cX10_code 25 = .ok (.iload 4, 2) := by decide +kernel
theorem dX10_code_27 : decode cX10_code 27 = .ok (.invokestatic 105, 3) := by decide +kernel
theorem dX10_code_30 : decode cX10_code 30 = .ok (.ifCond .eq 13, 3) := by decide +kernel
theorem dX10_code_33 : decode cX10_code 33 = .ok (.iload 4, 2) := by decide +kernel
theorem dX10_code_35 : decode cX10_code 35 = .ok (.bipush 97, 2) := by decide +kernel
theorem dX10_code_37 : decode cX10_code 37 = .ok (.isub, 1) := by decide +kernel
theorem dX10_code_38 : decode cX10_code 38 = .ok (.iconst 1, 1) := by decide +kernel
theorem dX10_code_39 : decode cX10_code 39 = .ok (.iadd, 1) := by decide +kernel
theorem dX10_code_40 : decode cX10_code 40 = .ok (.goto 11, 3) := by decide +kernel
theorem dX10_code_43 : decode cX10_code 43 = .ok (.iload 4, 2) := by decide +kernel
theorem dX10_code_45 : decode cX10_code 45 = .ok (.bipush 65, 2) := by decide +kernel
theorem dX10_code_47 : decode cX10_code 47 = .ok (.isub, 1) := by decide +kernel
theorem dX10_code_48 : decode cX10_code 48 = .ok (.bipush 27, 2) := by decide +kernel
theorem dX10_code_50 : decode cX10_code 50 = .ok (.iadd, 1) := by decide +kernel
theorem dX10_code_51 : decode cX10_code 51 = .ok (.i2l, 1) := by decide +kernel
theorem dX10_code_52 : decode cX10_code 52 = .ok (.ladd, 1) := by decide +kernel
theorem dX10_code_53 : decode cX10_code 53 = .ok (.lstore_n 1, 1) := by decide +kernel
theorem dX10_code_54 : decode cX10_code 54 = .ok (.iinc 3 1, 3) := by decide +kernel
theorem dX10_code_57 : decode cX10_code 57 = .ok (.goto (-53), 3) := by decide +kernel
theorem dX10_code_60 : decode cX10_code 60 = .ok (.lload_n 1, 1) := by decide +kernel
theorem dX10_code_61 : decode cX10_code 61 = .ok (.lreturn, 1) := by decide +kernel
theorem dX10_pick_0 : decode cX10_pick 0 = .ok (.aload_n 0, 1) := by decide +kernel
theorem dX10_pick_1 : decode cX10_pick 1 = .ok (.iload_n 1, 1) := by decide +kernel
theorem dX10_pick_2 : decode cX10_pick 2 = .ok (.invokevirtual 145, 3) := by decide +kernel
theorem dX10_pick_5 : decode cX10_pick 5 = .ok (.ifCond .ne 5, 3) := by decide +kernel
theorem dX10_pick_8 : decode cX10_pick 8 = .ok (.iconst (-1), 1) := by decide +kernel
theorem dX10_pick_9 : decode cX10_pick 9 = .ok (.ireturn, 1) := by decide +kernel
theorem dX10_pick_10 : decode cX10_pick 10 = .ok (.aload_n 0, 1) := by decide +kernel
theorem dX10_pick_11 : decode cX10_pick 11 = .ok (.dup, 1) := by decide +kernel
theorem dX10_pick_12 : decode cX10_pick 12 = .ok (.getfield 154, 3) := by decide +kernel
theorem dX10_pick_15 : decode cX10_pick 15 = .ok (.iconst 1, 1) := by decide +kernel
theorem dX10_pick_16 : decode cX10_pick 16 = .ok (.iadd, 1) := by decide +kernel
theorem dX10_pick_17 : decode cX10_pick 17 = .ok (.putfield 154, 3) := by decide +kernel
theorem dX10_pick_20 : decode cX10_pick 20 = .ok (.aload_n 0, 1) := by decide +kernel
theorem dX10_pick_21 : decode cX10_pick 21 = .ok (.getfield 25, 3) := by decide +kernel
theorem dX10_pick_24 : decode cX10_pick 24 = .ok (.iload_n 1, 1) := by decide +kernel
theorem dX10_pick_25 : decode cX10_pick 25 = .ok (.aload_n 0, 1) := by decide +kernel
theorem dX10_pick_26 : decode cX10_pick 26 = .ok (.getfield 154, 3) := by decide +kernel
theorem dX10_pick_29 : decode cX10_pick 29 = .ok (.iastore, 1) := by decide +kernel
theorem dX10_pick_30 : decode cX10_pick 30 = .ok (.aload_n 0, 1) := by decide +kernel
theorem dX10_pick_31 : decode cX10_pick 31 = .ok (.getfield 154, 3) := by decide +kernel
theorem dX10_pick_34 : decode cX10_pick 34 = .ok (.ireturn, 1) := by decide +kernel
theorem dX10_forget_0 : decode cX10_forget 0 = .ok (.aload_n 0, 1) := by decide +kernel
theorem dX10_forget_1 : decode cX10_forget 1 = .ok (.iload_n 1, 1) := by decide +kernel
theorem dX10_forget_2 : decode cX10_forget 2 = .ok (.invokevirtual 145, 3) := by decide +kernel
theorem dX10_forget_5 : decode cX10_forget 5 = .ok (.ifCond .ne 5, 3) := by decide +kernel
theorem dX10_forget_8 : decode cX10_forget 8 = .ok (.iconst (-1), 1) := by decide +kernel
theorem dX10_forget_9 : decode cX10_forget 9 = .ok (.ireturn, 1) := by decide +kernel
theorem dX10_forget_10 : decode cX10_forget 10 = .ok (.aload_n 0, 1) := by decide +kernel
theorem dX10_forget_11 : decode cX10_forget 11 = .ok (.getfield 25, 3) := by decide +kernel
theorem dX10_forget_14 : decode cX10_forget 14 = .ok (.iload_n 1, 1) := by decide +kernel
theorem dX10_forget_15 : decode cX10_forget 15 = .ok (.iaload, 1) := by decide +kernel
theorem dX10_forget_16 : decode cX10_forget 16 = .ok (.ifCond .ne 6, 3) := by decide +kernel
theorem dX10_forget_19 : decode cX10_forget 19 = .ok (.bipush (-2), 2) := by decide +kernel
theorem dX10_forget_21 : decode cX10_forget 21 = .ok (.ireturn, 1) := by decide +kernel
theorem dX10_forget_22 : decode cX10_forget 22 = .ok (.aload_n 0, 1) := by decide +kernel
theorem dX10_forget_23 : decode cX10_forget 23 = .ok (.getfield 25, 3) := by decide +kernel
theorem dX10_forget_26 : decode cX10_forget 26 = .ok (.iload_n 1, 1) := by decide +kernel
theorem dX10_forget_27 : decode cX10_forget 27 = .ok (.iaload, 1) := by decide +kernel
theorem dX10_forget_28 : decode cX10_forget 28 = .ok (.istore_n 2, 1) := by decide +kernel
theorem dX10_forget_29 : decode cX10_forget 29 = .ok (.aload_n 0, 1) := by decide +kernel
theorem dX10_forget_30 : decode cX10_forget 30 = .ok (.getfield 25, 3) := by decide +kernel
theorem dX10_forget_33 : decode cX10_forget 33 = .ok (.iload_n 1, 1) := by decide +kernel
theorem dX10_forget_34 : decode cX10_forget 34 = .ok (.iconst 0, 1) := by decide +kernel
theorem dX10_forget_35 : decode cX10_forget 35 = .ok (.iastore, 1) := by decide +kernel
theorem dX10_forget_36 : decode cX10_forget 36 = .ok (.iload_n 2, 1) := by decide +kernel
theorem dX10_forget_37 : decode cX10_forget 37 = .ok (.ireturn, 1) := by decide +kernel
theorem dX10_drop_0 : decode cX10_drop 0 = .ok (.aload_n 0, 1) := by decide +kernel
theorem dX10_drop_1 : decode cX10_drop 1 = .ok (.iload_n 1, 1) := by decide +kernel
theorem dX10_drop_2 : decode cX10_drop 2 = .ok (.invokevirtual 145, 3) := by decide +kernel
theorem dX10_drop_5 : decode cX10_drop 5 = .ok (.ifCond .ne 5, 3) := by decide +kernel
theorem dX10_drop_8 : decode cX10_drop 8 = .ok (.iconst (-1), 1) := by decide +kernel
theorem dX10_drop_9 : decode cX10_drop 9 = .ok (.ireturn, 1) := by decide +kernel
theorem dX10_drop_10 : decode cX10_drop 10 = .ok (.aload_n 0, 1) := by decide +kernel
theorem dX10_drop_11 : decode cX10_drop 11 = .ok (.getfield 99, 3) := by decide +kernel
theorem dX10_drop_14 : decode cX10_drop 14 = .ok (.iconst 1, 1) := by decide +kernel
theorem dX10_drop_15 : decode cX10_drop 15 = .ok (.if_icmp .ne 6, 3) := by decide +kernel
theorem dX10_drop_18 : decode cX10_drop 18 = .ok (.bipush (-2), 2) := by decide +kernel
theorem dX10_drop_20 : decode cX10_drop 20 = .ok (.ireturn, 1) := by decide +kernel
theorem dX10_drop_21 : decode cX10_drop 21 = .ok (.aload_n 0, 1) := by decide +kernel
theorem dX10_drop_22 : decode cX10_drop 22 = .ok (.dup, 1) := by decide +kernel
theorem dX10_drop_23 : decode cX10_drop 23 = .ok (.getfield 99, 3) := by decide +kernel
theorem dX10_drop_26 : decode cX10_drop 26 = .ok (.iconst 1, 1) := by decide +kernel
theorem dX10_drop_27 : decode cX10_drop 27 = .ok (.isub, 1) := by decide +kernel
theorem dX10_drop_28 : decode cX10_drop 28 = .ok (.putfield 99, 3) := by decide +kernel
theorem dX10_drop_31 : decode cX10_drop 31 = .ok (.iload_n 1, 1) := by decide +kernel
theorem dX10_drop_32 : decode cX10_drop 32 = .ok (.istore_n 2, 1) := by decide +kernel
theorem dX10_drop_33 : decode cX10_drop 33 = .ok (.iload_n 2, 1) := by decide +kernel
theorem dX10_drop_34 : decode cX10_drop 34 = .ok (.aload_n 0, 1) := by decide +kernel
theorem dX10_drop_35 : decode cX10_drop 35 = .ok (.getfield 99, 3) := by decide +kernel
theorem dX10_drop_38 : decode cX10_drop 38 = .ok (.if_icmp .ge 108, 3) := by decide +kernel
theorem dX10_drop_41 : decode cX10_drop 41 = .ok (.aload_n 0, 1) := by decide +kernel
theorem dX10_drop_42 : decode cX10_drop 42 = .ok (.getfield 16, 3) := by decide +kernel
theorem dX10_drop_45 : decode cX10_drop 45 = .ok (.iload_n 2, 1) := by decide +kernel
theorem dX10_drop_46 : decode cX10_drop 46 = .ok (.aload_n 0, 1) := by decide +kernel
theorem dX10_drop_47 : decode cX10_drop 47 = .ok (.getfield 16, 3) := by decide +kernel
theorem dX10_drop_50 : decode cX10_drop 50 = .ok (.iload_n 2, 1) := by decide +kernel
theorem dX10_drop_51 : decode cX10_drop 51 = .ok (.iconst 1, 1) := by decide +kernel
theorem dX10_drop_52 : decode cX10_drop 52 = .ok (.iadd, 1) := by decide +kernel
theorem dX10_drop_53 : decode cX10_drop 53 = .ok (.iaload, 1) := by decide +kernel
theorem dX10_drop_54 : decode cX10_drop 54 = .ok (.iastore, 1) := by decide +kernel
theorem dX10_drop_55 : decode cX10_drop 55 = .ok (.aload_n 0, 1) := by decide +kernel
theorem dX10_drop_56 : decode cX10_drop 56 = .ok (.getfield 19, 3) := by decide +kernel
theorem dX10_drop_59 : decode cX10_drop 59 = .ok (.iload_n 2, 1) := by decide +kernel
theorem dX10_drop_60 : decode cX10_drop 60 = .ok (.aload_n 0, 1) := by decide +kernel
theorem dX10_drop_61 : decode cX10_drop 61 = .ok (.getfield 19, 3) := by decide +kernel
theorem dX10_drop_64 : decode cX10_drop 64 = .ok (.iload_n 2, 1) := by decide +kernel
theorem dX10_drop_65 : decode cX10_drop 65 = .ok (.iconst 1, 1) := by decide +kernel
theorem dX10_drop_66 : decode cX10_drop 66 = .ok (.iadd, 1) := by decide +kernel
theorem dX10_drop_67 : decode cX10_drop 67 = .ok (.iaload, 1) := by decide +kernel
theorem dX10_drop_68 : decode cX10_drop 68 = .ok (.iastore, 1) := by decide +kernel
theorem dX10_drop_69 : decode cX10_drop 69 = .ok (.aload_n 0, 1) := by decide +kernel
theorem dX10_drop_70 : decode cX10_drop 70 = .ok (.getfield 22, 3) := by decide +kernel
theorem dX10_drop_73 : decode cX10_drop 73 = .ok (.iload_n 2, 1) := by decide +kernel
theorem dX10_drop_74 : decode cX10_drop 74 = .ok (.aload_n 0, 1) := by decide +kernel
theorem dX10_drop_75 : decode cX10_drop 75 = .ok (.getfield 22, 3) := by decide +kernel
theorem dX10_drop_78 : decode cX10_drop 78 = .ok (.iload_n 2, 1) := by decide +kernel
theorem dX10_drop_79 : decode cX10_drop 79 = .ok (.iconst 1, 1) := by decide +kernel
theorem dX10_drop_80 : decode cX10_drop 80 = .ok (.iadd, 1) := by decide +kernel
theorem dX10_drop_81 : decode cX10_drop 81 = .ok (.iaload, 1) := by decide +kernel
theorem dX10_drop_82 : decode cX10_drop 82 = .ok (.iastore, 1) := by decide +kernel
theorem dX10_drop_83 : decode cX10_drop 83 = .ok (.aload_n 0, 1) := by decide +kernel
theorem dX10_drop_84 : decode cX10_drop 84 = .ok (.getfield 25, 3) := by decide +kernel
theorem dX10_drop_87 : decode cX10_drop 87 = .ok (.iload_n 2, 1) := by decide +kernel
theorem dX10_drop_88 : decode cX10_drop 88 = .ok (.aload_n 0, 1) := by decide +kernel
theorem dX10_drop_89 : decode cX10_drop 89 = .ok (.getfield 25, 3) := by decide +kernel
theorem dX10_drop_92 : decode cX10_drop 92 = .ok (.iload_n 2, 1) := by decide +kernel
theorem dX10_drop_93 : decode cX10_drop 93 = .ok (.iconst 1, 1) := by decide +kernel
theorem dX10_drop_94 : decode cX10_drop 94 = .ok (.iadd, 1) := by decide +kernel
theorem dX10_drop_95 : decode cX10_drop 95 = .ok (.iaload, 1) := by decide +kernel
theorem dX10_drop_96 : decode cX10_drop 96 = .ok (.iastore, 1) := by decide +kernel
theorem dX10_drop_97 : decode cX10_drop 97 = .ok (.iconst 0, 1) := by decide +kernel
theorem dX10_drop_98 : decode cX10_drop 98 = .ok (.istore_n 3, 1) := by decide +kernel
theorem dX10_drop_99 : decode cX10_drop 99 = .ok (.iload_n 3, 1) := by decide +kernel
theorem dX10_drop_100 : decode cX10_drop 100 = .ok (.aload_n 0, 1) := by decide +kernel
theorem dX10_drop_101 : decode cX10_drop 101 = .ok (.getfield 16, 3) := by decide +kernel
theorem dX10_drop_104 : decode cX10_drop 104 = .ok (.iload_n 2, 1) := by decide +kernel
theorem dX10_drop_105 : decode cX10_drop 105 = .ok (.iaload, 1) := by decide +kernel
theorem dX10_drop_106 : decode cX10_drop 106 = .ok (.if_icmp .ge 34, 3) := by decide +kernel
theorem dX10_drop_109 : decode cX10_drop 109 = .ok (.aload_n 0, 1) := by decide +kernel
theorem dX10_drop_110 : decode cX10_drop 110 = .ok (.getfield 13, 3) := by decide +kernel
theorem dX10_drop_113 : decode cX10_drop 113 = .ok (.bipush 12, 2) := by decide +kernel
theorem dX10_drop_115 : decode cX10_drop 115 = .ok (.iload_n 2, 1) := by decide +kernel
theorem dX10_drop_116 : decode cX10_drop 116 = .ok (.imul, 1) := by decide +kernel
theorem dX10_drop_117 : decode cX10_drop 117 = .ok (.iload_n 3, 1) := by decide +kernel
theorem dX10_drop_118 : decode cX10_drop 118 = .ok (.iadd, 1) := by decide +kernel
theorem dX10_drop_119 : decode cX10_drop 119 = .ok (.aload_n 0, 1) := by decide +kernel
theorem dX10_drop_120 : decode cX10_drop 120 = .ok (.getfield 13, 3) := by decide +kernel
theorem dX10_drop_123 : decode cX10_drop 123 = .ok (.bipush 12, 2) := by decide +kernel
theorem dX10_drop_125 : decode cX10_drop 125 = .ok (.iload_n 2, 1) := by decide +kernel
theorem dX10_drop_126 : decode cX10_drop 126 = .ok (.imul, 1) := by decide +kernel
theorem dX10_drop_127 : decode cX10_drop 127 = .ok (.bipush 12, 2) := by decide +kernel
theorem dX10_drop_129 : decode cX10_drop 129 = .ok (.iadd, 1) := by decide +kernel
theorem dX10_drop_130 : decode cX10_drop 130 = .ok (.iload_n 3, 1) := by decide +kernel
theorem dX10_drop_131 : decode cX10_drop 131 = .ok (.iadd, 1) := by decide +kernel
theorem dX10_drop_132 : decode cX10_drop 132 = .ok (.iaload, 1) := by decide +kernel
theorem dX10_drop_133 : decode cX10_drop 133 = .ok (.iastore, 1) := by decide +kernel
theorem dX10_drop_134 : decode cX10_drop 134 = .ok (.iinc 3 1, 3) := by decide +kernel
theorem dX10_drop_137 : decode cX10_drop 137 = .ok (.goto (-38), 3) := by decide +kernel
theorem dX10_drop_140 : decode cX10_drop 140 = .ok (.iinc 2 1, 3) := by decide +kernel
theorem dX10_drop_143 : decode cX10_drop 143 = .ok (.goto (-110), 3) := by decide +kernel
theorem dX10_drop_146 : decode cX10_drop 146 = .ok (.aload_n 0, 1) := by decide +kernel
theorem dX10_drop_147 : decode cX10_drop 147 = .ok (.getfield 99, 3) := by decide +kernel
theorem dX10_drop_150 : decode cX10_drop 150 = .ok (.ireturn, 1) := by decide +kernel
theorem dX10_rename_0 : decode cX10_rename 0 = .ok (.aload_n 0, 1) := by decide +kernel
theorem dX10_rename_1 : decode cX10_rename 1 = .ok (.iload_n 1, 1) := by decide +kernel
theorem dX10_rename_2 : decode cX10_rename 2 = .ok (.invokevirtual 145, 3) := by decide +kernel
theorem dX10_rename_5 : decode cX10_rename 5 = .ok (.ifCond .eq 12, 3) := by decide +kernel
theorem dX10_rename_8 : decode cX10_rename 8 = .ok (.iload_n 2, 1) := by decide +kernel
theorem dX10_rename_9 : decode cX10_rename 9 = .ok (.ifCond .lt 8, 3) := by decide +kernel
theorem dX10_rename_12 : decode cX10_rename 12 = .ok (.iload_n 2, 1) := by decide +kernel
theorem dX10_rename_13 : decode cX10_rename 13 = .ok (.iconst 3, 1) := by decide +kernel
theorem dX10_rename_14 : decode cX10_rename 14 = .ok (.if_icmp .le 5, 3) := by decide +kernel
theorem dX10_rename_17 : decode cX10_rename 17 = .ok (.iconst (-1), 1) := by decide +kernel
theorem dX10_rename_18 : decode cX10_rename 18 = .ok (.ireturn, 1) := by decide +kernel
theorem dX10_rename_19 : decode cX10_rename 19 = .ok (.aload_n 0, 1) := by decide +kernel
theorem dX10_rename_20 : decode cX10_rename 20 = .ok (.getfield 19, 3) := by decide +kernel
theorem dX10_rename_23 : decode cX10_rename 23 = .ok (.iload_n 1, 1) := by decide +kernel
theorem dX10_rename_24 : decode cX10_rename 24 = .ok (.iaload, 1) := by decide +kernel
theorem dX10_rename_25 : decode cX10_rename 25 = .ok (.iload_n 2, 1) := by decide +kernel
theorem dX10_rename_26 : decode cX10_rename 26 = .ok (.if_icmp .ne 6, 3) := by decide +kernel
theorem dX10_rename_29 : decode cX10_rename 29 = .ok (.bipush (-2), 2) := by decide +kernel
theorem dX10_rename_31 : decode cX10_rename 31 = .ok (.ireturn, 1) := by decide +kernel
theorem dX10_rename_32 : decode cX10_rename 32 = .ok (.aload_n 0, 1) := by decide +kernel
theorem dX10_rename_33 : decode cX10_rename 33 = .ok (.getfield 19, 3) := by decide +kernel
theorem dX10_rename_36 : decode cX10_rename 36 = .ok (.iload_n 1, 1) := by decide +kernel
theorem dX10_rename_37 : decode cX10_rename 37 = .ok (.iaload, 1) := by decide +kernel
theorem dX10_rename_38 : decode cX10_rename 38 = .ok (.istore_n 3, 1) := by decide +kernel
theorem dX10_rename_39 : decode cX10_rename 39 = .ok (.aload_n 0, 1) := by decide +kernel
theorem dX10_rename_40 : decode cX10_rename 40 = .ok (.getfield 19, 3) := by decide +kernel
theorem dX10_rename_43 : decode cX10_rename 43 = .ok (.iload_n 1, 1) := by decide +kernel
theorem dX10_rename_44 : decode cX10_rename 44 = .ok (.iload_n 2, 1) := by decide +kernel
theorem dX10_rename_45 : decode cX10_rename 45 = .ok (.iastore, 1) := by decide +kernel
theorem dX10_rename_46 : decode cX10_rename 46 = .ok (.aload_n 0, 1) := by decide +kernel
theorem dX10_rename_47 : decode cX10_rename 47 = .ok (.dup, 1) := by decide +kernel
theorem dX10_rename_48 : decode cX10_rename 48 = .ok (.getfield 52, 3) := by decide +kernel
theorem dX10_rename_51 : decode cX10_rename 51 = .ok (.iconst 1, 1) := by decide +kernel
theorem dX10_rename_52 : decode cX10_rename 52 = .ok (.iadd, 1) := by decide +kernel
theorem dX10_rename_53 : decode cX10_rename 53 = .ok (.putfield 52, 3) := by decide +kernel
theorem dX10_rename_56 : decode cX10_rename 56 = .ok (.iload_n 3, 1) := by decide +kernel
theorem dX10_rename_57 : decode cX10_rename 57 = .ok (.ireturn, 1) := by decide +kernel
theorem dX10_worth_0 : decode cX10_worth 0 = .ok (.iload_n 1, 1) := by decide +kernel
theorem dX10_worth_1 : decode cX10_worth 1 = .ok (.ifCond .lt 29, 3) := by decide +kernel
theorem dX10_worth_4 : decode cX10_worth 4 = .ok (.iload_n 1, 1) := by decide +kernel
theorem dX10_worth_5 : decode cX10_worth 5 = .ok (.bipush 9, 2) := by decide +kernel
theorem dX10_worth_7 : decode cX10_worth 7 = .ok (.if_icmp .gt 23, 3) := by decide +kernel
theorem dX10_worth_10 : decode cX10_worth 10 = .ok (.iload_n 2, 1) := by decide +kernel
theorem dX10_worth_11 : decode cX10_worth 11 = .ok (.ifCond .lt 19, 3) := by decide +kernel
theorem dX10_worth_14 : decode cX10_worth 14 = .ok (.iload_n 2, 1) := by decide +kernel
theorem dX10_worth_15 : decode cX10_worth 15 = .ok (.bipush 9, 2) := by decide +kernel
theorem dX10_worth_17 : decode cX10_worth 17 = .ok (.if_icmp .gt 13, 3) := by decide +kernel
theorem dX10_worth_20 : decode cX10_worth 20 = .ok (.iload_n 3, 1) := by decide +kernel
theorem dX10_worth_21 : decode cX10_worth 21 = .ok (.ifCond .lt 9, 3) := by decide +kernel
theorem dX10_worth_24 : decode cX10_worth 24 = .ok (.iload_n 3, 1) := by decide +kernel
theorem dX10_worth_25 : decode cX10_worth 25 = .ok (.bipush 9, 2) := by decide +kernel
theorem dX10_worth_27 : decode cX10_worth 27 = .ok (.if_icmp .le 5, 3) := by decide +kernel
theorem dX10_worth_30 : decode cX10_worth 30 = .ok (.iconst (-1), 1) := by decide +kernel
theorem dX10_worth_31 : decode cX10_worth 31 = .ok (.ireturn, 1) := by decide +kernel
theorem dX10_worth_32 : decode cX10_worth 32 = .ok (.aload_n 0, 1) := by decide +kernel
theorem dX10_worth_33 : decode cX10_worth 33 = .ok (.getfield 28, 3) := by decide +kernel
theorem dX10_worth_36 : decode cX10_worth 36 = .ok (.iconst 0, 1) := by decide +kernel
theorem dX10_worth_37 : decode cX10_worth 37 = .ok (.iaload, 1) := by decide +kernel
theorem dX10_worth_38 : decode cX10_worth 38 = .ok (.iload_n 1, 1) := by decide +kernel
theorem dX10_worth_39 : decode cX10_worth 39 = .ok (.if_icmp .ne 26, 3) := by decide +kernel
theorem dX10_worth_42 : decode cX10_worth 42 = .ok (.aload_n 0, 1) := by decide +kernel
theorem dX10_worth_43 : decode cX10_worth 43 = .ok (.getfield 28, 3) := by decide +kernel
theorem dX10_worth_46 : decode cX10_worth 46 = .ok (.iconst 1, 1) := by decide +kernel
theorem dX10_worth_47 : decode cX10_worth 47 = .ok (.iaload, 1) := by decide +kernel
theorem dX10_worth_48 : decode cX10_worth 48 = .ok (.iload_n 2, 1) := by decide +kernel
theorem dX10_worth_49 : decode cX10_worth 49 = .ok (.if_icmp .ne 16, 3) := by decide +kernel
theorem dX10_worth_52 : decode cX10_worth 52 = .ok (.aload_n 0, 1) := by decide +kernel
theorem dX10_worth_53 : decode cX10_worth 53 = .ok (.getfield 28, 3) := by decide +kernel
theorem dX10_worth_56 : decode cX10_worth 56 = .ok (.iconst 2, 1) := by decide +kernel
theorem dX10_worth_57 : decode cX10_worth 57 = .ok (.iaload, 1) := by decide +kernel
theorem dX10_worth_58 : decode cX10_worth 58 = .ok (.iload_n 3, 1) := by decide +kernel
theorem dX10_worth_59 : decode cX10_worth 59 = .ok (.if_icmp .ne 6, 3) := by decide +kernel
theorem dX10_worth_62 : decode cX10_worth 62 = .ok (.bipush (-2), 2) := by decide +kernel
theorem dX10_worth_64 : decode cX10_worth 64 = .ok (.ireturn, 1) := by decide +kernel
theorem dX10_worth_65 : decode cX10_worth 65 = .ok (.aload_n 0, 1) := by decide +kernel
theorem dX10_worth_66 : decode cX10_worth 66 = .ok (.getfield 28, 3) := by decide +kernel
theorem dX10_worth_69 : decode cX10_worth 69 = .ok (.iconst 0, 1) := by decide +kernel
theorem dX10_worth_70 : decode cX10_worth 70 = .ok (.iload_n 1, 1) := by decide +kernel
theorem dX10_worth_71 : decode cX10_worth 71 = .ok (.iastore, 1) := by decide +kernel
theorem dX10_worth_72 : decode cX10_worth 72 = .ok (.aload_n 0, 1) := by decide +kernel
theorem dX10_worth_73 : decode cX10_worth 73 = .ok (.getfield 28, 3) := by decide +kernel
theorem dX10_worth_76 : decode cX10_worth 76 = .ok (.iconst 1, 1) := by decide +kernel
theorem dX10_worth_77 : decode cX10_worth 77 = .ok (.iload_n 2, 1) := by decide +kernel
theorem dX10_worth_78 : decode cX10_worth 78 = .ok (.iastore, 1) := by decide +kernel
theorem dX10_worth_79 : decode cX10_worth 79 = .ok (.aload_n 0, 1) := by decide +kernel
theorem dX10_worth_80 : decode cX10_worth 80 = .ok (.getfield 28, 3) := by decide +kernel
theorem dX10_worth_83 : decode cX10_worth 83 = .ok (.iconst 2, 1) := by decide +kernel
theorem dX10_worth_84 : decode cX10_worth 84 = .ok (.iload_n 3, 1) := by decide +kernel
theorem dX10_worth_85 : decode cX10_worth 85 = .ok (.iastore, 1) := by decide +kernel
theorem dX10_worth_86 : decode cX10_worth 86 = .ok (.aload_n 0, 1) := by decide +kernel
theorem dX10_worth_87 : decode cX10_worth 87 = .ok (.dup, 1) := by decide +kernel
theorem dX10_worth_88 : decode cX10_worth 88 = .ok (.getfield 52, 3) := by decide +kernel
theorem dX10_worth_91 : decode cX10_worth 91 = .ok (.iconst 1, 1) := by decide +kernel
theorem dX10_worth_92 : decode cX10_worth 92 = .ok (.iadd, 1) := by decide +kernel
theorem dX10_worth_93 : decode cX10_worth 93 = .ok (.putfield 52, 3) := by decide +kernel
theorem dX10_worth_96 : decode cX10_worth 96 = .ok (.aload_n 0, 1) := by decide +kernel
theorem dX10_worth_97 : decode cX10_worth 97 = .ok (.getfield 52, 3) := by decide +kernel
theorem dX10_worth_100 : decode cX10_worth 100 = .ok (.ireturn, 1) := by decide +kernel
theorem dX10_low_0 : decode cX10_low 0 = .ok (.iload_n 0, 1) := by decide +kernel
theorem dX10_low_1 : decode cX10_low 1 = .ok (.invokestatic 109, 3) := by decide +kernel
theorem dX10_low_4 : decode cX10_low 4 = .ok (.ifCond .eq 13, 3) := by decide +kernel
theorem dX10_low_7 : decode cX10_low 7 = .ok (.iload_n 0, 1) := by decide +kernel
theorem dX10_low_8 : decode cX10_low 8 = .ok (.bipush 65, 2) := by decide +kernel
theorem dX10_low_10 : decode cX10_low 10 = .ok (.isub, 1) := by decide +kernel
theorem dX10_low_11 : decode cX10_low 11 = .ok (.bipush 97, 2) := by decide +kernel
theorem dX10_low_13 : decode cX10_low 13 = .ok (.iadd, 1) := by decide +kernel
theorem dX10_low_14 : decode cX10_low 14 = .ok (.goto 4, 3) := by decide +kernel
theorem dX10_low_17 : decode cX10_low 17 = .ok (.iload_n 0, 1) := by decide +kernel
theorem dX10_low_18 : decode cX10_low 18 = .ok (.ireturn, 1) := by decide +kernel
theorem dX10_isAlike_0 : decode cX10_isAlike 0 = .ok (.aload_n 0, 1) := by decide +kernel
theorem dX10_isAlike_1 : decode cX10_isAlike 1 = .ok (.getfield 13, 3) := by decide +kernel
theorem dX10_isAlike_4 : decode cX10_isAlike 4 = .ok (.bipush 12, 2) := by decide +kernel
theorem dX10_isAlike_6 : decode cX10_isAlike 6 = .ok (.iload_n 1, 1) := by decide +kernel
theorem dX10_isAlike_7 : decode cX10_isAlike 7 = .ok (.imul, 1) := by decide +kernel
theorem dX10_isAlike_8 : decode cX10_isAlike 8 = .ok (.iload_n 2, 1) := by decide +kernel
theorem dX10_isAlike_9 : decode cX10_isAlike 9 = .ok (.iadd, 1) := by decide +kernel
theorem dX10_isAlike_10 : decode cX10_isAlike 10 = .ok (.iaload, 1) := by decide +kernel
theorem dX10_isAlike_11 : decode cX10_isAlike 11 = .ok (.istore 4, 2) := by decide +kernel
theorem dX10_isAlike_13 : decode cX10_isAlike 13 = .ok (.aload_n 0, 1) := by decide +kernel
theorem dX10_isAlike_14 : decode cX10_isAlike 14 = .ok (.getfield 19, 3) := by decide +kernel
theorem dX10_isAlike_17 : decode cX10_isAlike 17 = .ok (.iload_n 1, 1) := by decide +kernel
theorem dX10_isAlike_18 : decode cX10_isAlike 18 = .ok (.iaload, 1) := by decide +kernel
theorem dX10_isAlike_19 : decode cX10_isAlike 19 = .ok (.iconst 1, 1) := by decide +kernel
theorem dX10_isAlike_20 : decode cX10_isAlike 20 = .ok (.if_icmp .ne 17, 3) := by decide +kernel
theorem dX10_isAlike_23 : decode cX10_isAlike 23 = .ok (.iload 4, 2) := by decide +kernel
theorem dX10_isAlike_25 : decode cX10_isAlike 25 = .ok (.iload_n 3, 1) := by decide +kernel
theorem dX10_isAlike_26 : decode cX10_isAlike 26 = .ok (.if_icmp .ne 7, 3) := by decide +kernel
theorem dX10_isAlike_29 : decode cX10_isAlike 29 = .ok (.iconst 1, 1) := by decide +kernel
theorem dX10_isAlike_30 : decode cX10_isAlike 30 = .ok (.goto 24, 3) := by decide +kernel
theorem dX10_isAlike_33 : decode cX10_isAlike 33 = .ok (.iconst 0, 1) := by decide +kernel
theorem dX10_isAlike_34 : decode cX10_isAlike 34 = .ok (.goto 20, 3) := by decide +kernel
theorem dX10_isAlike_37 : decode cX10_isAlike 37 = .ok (.iload 4, 2) := by decide +kernel
theorem dX10_isAlike_39 : decode cX10_isAlike 39 = .ok (.invokestatic 157, 3) := by decide +kernel
theorem dX10_isAlike_42 : decode cX10_isAlike 42 = .ok (.iload_n 3, 1) := by decide +kernel
theorem dX10_isAlike_43 : decode cX10_isAlike 43 = .ok (.invokestatic 157, 3) := by decide +kernel
theorem dX10_isAlike_46 : decode cX10_isAlike 46 = .ok (.if_icmp .ne 7, 3) := by decide +kernel
theorem dX10_isAlike_49 : decode cX10_isAlike 49 = .ok (.iconst 1, 1) := by decide +kernel
theorem dX10_isAlike_50 : decode cX10_isAlike 50 = .ok (.goto 4, 3) := by decide +kernel
theorem dX10_isAlike_53 : decode cX10_isAlike 53 = .ok (.iconst 0, 1) := by decide +kernel
theorem dX10_isAlike_54 : decode cX10_isAlike 54 = .ok (.ireturn, 1) := by decide +kernel
theorem dX10_goesOn_0 : decode cX10_goesOn 0 = .ok (.aload_n 0, 1) := by decide +kernel
theorem dX10_goesOn_1 : decode cX10_goesOn 1 = .ok (.getfield 160, 3) := by decide +kernel
theorem dX10_goesOn_4 : decode cX10_goesOn 4 = .ok (.iconst 1, 1) := by decide +kernel
theorem dX10_goesOn_5 : decode cX10_goesOn 5 = .ok (.isub, 1) := by decide +kernel
theorem dX10_goesOn_6 : decode cX10_goesOn 6 = .ok (.istore_n 2, 1) := by decide +kernel
theorem dX10_goesOn_7 : decode cX10_goesOn 7 = .ok (.iload_n 2, 1) := by decide +kernel
theorem dX10_goesOn_8 : decode cX10_goesOn 8 = .ok (.ifCond .lt 26, 3) := by decide +kernel
theorem dX10_goesOn_11 : decode cX10_goesOn 11 = .ok (.aload_n 0, 1) := by decide +kernel
theorem dX10_goesOn_12 : decode cX10_goesOn 12 = .ok (.getfield 78, 3) := by decide +kernel
theorem dX10_goesOn_15 : decode cX10_goesOn 15 = .ok (.iload_n 2, 1) := by decide +kernel
theorem dX10_goesOn_16 : decode cX10_goesOn 16 = .ok (.iaload, 1) := by decide +kernel
theorem dX10_goesOn_17 : decode cX10_goesOn 17 = .ok (.iload_n 1, 1) := by decide +kernel
theorem dX10_goesOn_18 : decode cX10_goesOn 18 = .ok (.aload_n 0, 1) := by decide +kernel
theorem dX10_goesOn_19 : decode cX10_goesOn 19 = .ok (.getfield 160, 3) := by decide +kernel
theorem dX10_goesOn_22 : decode cX10_goesOn 22 = .ok (.isub, 1) := by decide +kernel
theorem dX10_goesOn_23 : decode cX10_goesOn 23 = .ok (.iload_n 2, 1) := by decide +kernel
theorem dX10_goesOn_24 : decode cX10_goesOn 24 = .ok (.iadd, 1) := by decide +kernel
theorem dX10_goesOn_25 : decode cX10_goesOn 25 = .ok (.if_icmp .ne 9, 3) := by decide +kernel
theorem dX10_goesOn_28 : decode cX10_goesOn 28 = .ok (.iinc 2 (-1), 3) := by decide +kernel
theorem dX10_goesOn_31 : decode cX10_goesOn 31 = .ok (.goto (-24), 3) := by decide +kernel
theorem dX10_goesOn_34 : decode cX10_goesOn 34 = .ok (.iload_n 2, 1) := by decide +kernel
theorem dX10_goesOn_35 : decode cX10_goesOn 35 = .ok (.ifCond .ge 5, 3) := by decide +kernel
theorem dX10_goesOn_38 : decode cX10_goesOn 38 = .ok (.iconst 0, 1) := by decide +kernel
theorem dX10_goesOn_39 : decode cX10_goesOn 39 = .ok (.ireturn, 1) := by decide +kernel
theorem dX10_goesOn_40 : decode cX10_goesOn 40 = .ok (.aload_n 0, 1) := by decide +kernel
theorem dX10_goesOn_41 : decode cX10_goesOn 41 = .ok (.getfield 78, 3) := by decide +kernel
theorem dX10_goesOn_44 : decode cX10_goesOn 44 = .ok (.iload_n 2, 1) := by decide +kernel
theorem dX10_goesOn_45 : decode cX10_goesOn 45 = .ok (.dup2, 1) := by decide +kernel
theorem dX10_goesOn_46 : decode cX10_goesOn 46 = .ok (.iaload, 1) := by decide +kernel
theorem dX10_goesOn_47 : decode cX10_goesOn 47 = .ok (.iconst 1, 1) := by decide +kernel
theorem dX10_goesOn_48 : decode cX10_goesOn 48 = .ok (.iadd, 1) := by decide +kernel
theorem dX10_goesOn_49 : decode cX10_goesOn 49 = .ok (.iastore, 1) := by decide +kernel
theorem dX10_goesOn_50 : decode cX10_goesOn 50 = .ok (.iload_n 2, 1) := by decide +kernel
theorem dX10_goesOn_51 : decode cX10_goesOn 51 = .ok (.iconst 1, 1) := by decide +kernel
theorem dX10_goesOn_52 : decode cX10_goesOn 52 = .ok (.iadd, 1) := by decide +kernel
theorem dX10_goesOn_53 : decode cX10_goesOn 53 = .ok (.istore_n 3, 1) := by decide +kernel
theorem dX10_goesOn_54 : decode cX10_goesOn 54 = .ok (.iload_n 3, 1) := by decide +kernel
theorem dX10_goesOn_55 : decode cX10_goesOn 55 = .ok (.aload_n 0, 1) := by decide +kernel
theorem dX10_goesOn_56 : decode cX10_goesOn 56 = .ok (.getfield 160, 3) := by decide +kernel
theorem dX10_goesOn_59 : decode cX10_goesOn 59 = .ok (.if_icmp .ge 25, 3) := by decide +kernel
theorem dX10_goesOn_62 : decode cX10_goesOn 62 = .ok (.aload_n 0, 1) := by decide +kernel
theorem dX10_goesOn_63 : decode cX10_goesOn 63 = .ok (.getfield 78, 3) := by decide +kernel
theorem dX10_goesOn_66 : decode cX10_goesOn 66 = .ok (.iload_n 3, 1) := by decide +kernel
theorem dX10_goesOn_67 : decode cX10_goesOn 67 = .ok (.aload_n 0, 1) := by decide +kernel
theorem dX10_goesOn_68 : decode cX10_goesOn 68 = .ok (.getfield 78, 3) := by decide +kernel
theorem dX10_goesOn_71 : decode cX10_goesOn 71 = .ok (.iload_n 3, 1) := by decide +kernel
theorem dX10_goesOn_72 : decode cX10_goesOn 72 = .ok (.iconst 1, 1) := by decide +kernel
theorem dX10_goesOn_73 : decode cX10_goesOn 73 = .ok (.isub, 1) := by decide +kernel
theorem dX10_goesOn_74 : decode cX10_goesOn 74 = .ok (.iaload, 1) := by decide +kernel
theorem dX10_goesOn_75 : decode cX10_goesOn 75 = .ok (.iconst 1, 1) := by decide +kernel
theorem dX10_goesOn_76 : decode cX10_goesOn 76 = .ok (.iadd, 1) := by decide +kernel
theorem dX10_goesOn_77 : decode cX10_goesOn 77 = .ok (.iastore, 1) := by decide +kernel
theorem dX10_goesOn_78 : decode cX10_goesOn 78 = .ok (.iinc 3 1, 3) := by decide +kernel
theorem dX10_goesOn_81 : decode cX10_goesOn 81 = .ok (.goto (-27), 3) := by decide +kernel
theorem dX10_goesOn_84 : decode cX10_goesOn 84 = .ok (.iconst 1, 1) := by decide +kernel
theorem dX10_goesOn_85 : decode cX10_goesOn 85 = .ok (.ireturn, 1) := by decide +kernel
theorem dX10_isWay_0 : decode cX10_isWay 0 = .ok (.iconst 0, 1) := by decide +kernel
theorem dX10_isWay_1 : decode cX10_isWay 1 = .ok (.istore_n 2, 1) := by decide +kernel
theorem dX10_isWay_2 : decode cX10_isWay 2 = .ok (.iload_n 2, 1) := by decide +kernel
theorem dX10_isWay_3 : decode cX10_isWay 3 = .ok (.aload_n 0, 1) := by decide +kernel
theorem dX10_isWay_4 : decode cX10_isWay 4 = .ok (.getfield 160, 3) := by decide +kernel
theorem dX10_isWay_7 : decode cX10_isWay 7 = .ok (.if_icmp .ge 31, 3) := by decide +kernel
theorem dX10_isWay_10 : decode cX10_isWay 10 = .ok (.aload_n 0, 1) := by decide +kernel
theorem dX10_isWay_11 : decode cX10_isWay 11 = .ok (.iload_n 1, 1) := by decide +kernel
theorem dX10_isWay_12 : decode cX10_isWay 12 = .ok (.aload_n 0, 1) := by decide +kernel
theorem dX10_isWay_13 : decode cX10_isWay 13 = .ok (.getfield 78, 3) := by decide +kernel
theorem dX10_isWay_16 : decode cX10_isWay 16 = .ok (.iload_n 2, 1) := by decide +kernel
theorem dX10_isWay_17 : decode cX10_isWay 17 = .ok (.iaload, 1) := by decide +kernel
theorem dX10_isWay_18 : decode cX10_isWay 18 = .ok (.aload_n 0, 1) := by decide +kernel
theorem dX10_isWay_19 : decode cX10_isWay 19 = .ok (.getfield 75, 3) := by decide +kernel
theorem dX10_isWay_22 : decode cX10_isWay 22 = .ok (.iload_n 2, 1) := by decide +kernel
theorem dX10_isWay_23 : decode cX10_isWay 23 = .ok (.iaload, 1) := by decide +kernel
theorem dX10_isWay_24 : decode cX10_isWay 24 = .ok (.invokevirtual 163, 3) := by decide +kernel
theorem dX10_isWay_27 : decode cX10_isWay 27 = .ok (.ifCond .ne 5, 3) := by decide +kernel
theorem dX10_isWay_30 : decode cX10_isWay 30 = .ok (.iconst 0, 1) := by decide +kernel
theorem dX10_isWay_31 : decode cX10_isWay 31 = .ok (.ireturn, 1) := by decide +kernel
theorem dX10_isWay_32 : decode cX10_isWay 32 = .ok (.iinc 2 1, 3) := by decide +kernel
theorem dX10_isWay_35 : decode cX10_isWay 35 = .ok (.goto (-33), 3) := by decide +kernel
theorem dX10_isWay_38 : decode cX10_isWay 38 = .ok (.iconst 1, 1) := by decide +kernel
theorem dX10_isWay_39 : decode cX10_isWay 39 = .ok (.ireturn, 1) := by decide +kernel
theorem dX10_worthOfWay_0 : decode cX10_worthOfWay 0 = .ok (.iconst 0, 1) := by decide +kernel
theorem dX10_worthOfWay_1 : decode cX10_worthOfWay 1 = .ok (.istore_n 2, 1) := by decide +kernel
theorem dX10_worthOfWay_2 : decode cX10_worthOfWay 2 = .ok (.iconst 0, 1) := by decide +kernel
theorem dX10_worthOfWay_3 : decode cX10_worthOfWay 3 = .ok (.istore_n 3, 1) := by decide +kernel
theorem dX10_worthOfWay_4 : decode cX10_worthOfWay 4 = .ok (.iload_n 3, 1) := by decide +kernel
theorem dX10_worthOfWay_5 : decode cX10_worthOfWay 5 = .ok (.aload_n 0, 1) := by decide +kernel
theorem dX10_worthOfWay_6 : decode cX10_worthOfWay 6 = .ok (.getfield 160, 3) := by decide +kernel
theorem dX10_worthOfWay_9 : decode cX10_worthOfWay 9 = .ok (.if_icmp .ge 127, 3) := by decide +kernel
theorem dX10_worthOfWay_12 : decode cX10_worthOfWay 12 = .ok (.iinc 2 50, 3) := by decide +kernel
theorem dX10_worthOfWay_15 : decode cX10_worthOfWay 15 = .ok (.aload_n 0, 1) := by decide +kernel
theorem dX10_worthOfWay_16 : decode cX10_worthOfWay 16 = .ok (.iload_n 1, 1) := by decide +kernel
theorem dX10_worthOfWay_17 : decode cX10_worthOfWay 17 = .ok (.aload_n 0, 1) := by decide +kernel
theorem dX10_worthOfWay_18 : decode cX10_worthOfWay 18 = .ok (.getfield 78, 3) := by decide +kernel
theorem dX10_worthOfWay_21 : decode cX10_worthOfWay 21 = .ok (.iload_n 3, 1) := by decide +kernel
theorem dX10_worthOfWay_22 : decode cX10_worthOfWay 22 = .ok (.iaload, 1) := by decide +kernel
theorem dX10_worthOfWay_23 : decode cX10_worthOfWay 23 = .ok (.invokevirtual 148, 3) := by decide +kernel
theorem dX10_worthOfWay_26 : decode cX10_worthOfWay 26 = .ok (.ifCond .eq 42, 3) := by decide +kernel
theorem dX10_worthOfWay_29 : decode cX10_worthOfWay 29 = .ok (.iload_n 2, 1) := by decide +kernel
theorem dX10_worthOfWay_30 : decode cX10_worthOfWay 30 = .ok (.aload_n 0, 1) := by decide +kernel
theorem dX10_worthOfWay_31 : decode cX10_worthOfWay 31 = .ok (.getfield 19, 3) := by decide +kernel
theorem dX10_worthOfWay_34 : decode cX10_worthOfWay 34 = .ok (.iload_n 1, 1) := by decide +kernel
theorem dX10_worthOfWay_35 : decode cX10_worthOfWay 35 = .ok (.iaload, 1) := by decide +kernel
theorem dX10_worthOfWay_36 : decode cX10_worthOfWay 36 = .ok (.iconst 2, 1) := by decide +kernel
theorem dX10_worthOfWay_37 : decode cX10_worthOfWay 37 = .ok (.if_icmp .ne 23, 3) := by decide +kernel
theorem dX10_worthOfWay_40 : decode cX10_worthOfWay 40 = .ok (.aload_n 0, 1) := by decide +kernel
theorem dX10_worthOfWay_41 : decode cX10_worthOfWay 41 = .ok (.getfield 78, 3) := by decide +kernel
theorem dX10_worthOfWay_44 : decode cX10_worthOfWay 44 = .ok (.iload_n 3, 1) := by decide +kernel
theorem dX10_worthOfWay_45 : decode cX10_worthOfWay 45 = .ok (.iaload, 1) := by decide +kernel
theorem dX10_worthOfWay_46 : decode cX10_worthOfWay 46 = .ok (.ifCond .ne 14, 3) := by decide +kernel
theorem dX10_worthOfWay_49 : decode cX10_worthOfWay 49 = .ok (.iconst 2, 1) := by decide +kernel
theorem dX10_worthOfWay_50 : decode cX10_worthOfWay 50 = .ok (.aload_n 0, 1) := by decide +kernel
theorem dX10_worthOfWay_51 : decode cX10_worthOfWay 51 = .ok (.getfield 28, 3) := by decide +kernel
theorem dX10_worthOfWay_54 : decode cX10_worthOfWay 54 = .ok (.iconst 0, 1) := by decide +kernel
theorem dX10_worthOfWay_55 : decode cX10_worthOfWay 55 = .ok (.iaload, 1) := by decide +kernel
theorem dX10_worthOfWay_56 : decode cX10_worthOfWay 56 = .ok (.imul, 1) := by decide +kernel
theorem dX10_worthOfWay_57 : decode cX10_worthOfWay 57 = .ok (.goto 9, 3) := by decide +kernel
theorem dX10_worthOfWay_60 : decode cX10_worthOfWay 60 = .ok (.aload_n 0, 1) := by decide +kernel
theorem dX10_worthOfWay_61 : decode cX10_worthOfWay 61 = .ok (.getfield 28, 3) := by decide +kernel
theorem dX10_worthOfWay_64 : decode cX10_worthOfWay 64 = .ok (.iconst 0, 1) := by decide +kernel
theorem dX10_worthOfWay_65 : decode cX10_worthOfWay 65 = .ok (.iaload, 1) := by decide +kernel
theorem dX10_worthOfWay_66 : decode cX10_worthOfWay 66 = .ok (.iadd, 1) := by decide +kernel
theorem dX10_worthOfWay_67 : decode cX10_worthOfWay 67 = .ok (.istore_n 2, 1) := by decide +kernel
theorem dX10_worthOfWay_68 : decode cX10_worthOfWay 68 = .ok (.iload_n 3, 1) := by decide +kernel
theorem dX10_worthOfWay_69 : decode cX10_worthOfWay 69 = .ok (.ifCond .le 61, 3) := by decide +kernel
theorem dX10_worthOfWay_72 : decode cX10_worthOfWay 72 = .ok (.aload_n 0, 1) := by decide +kernel
theorem dX10_worthOfWay_73 : decode cX10_worthOfWay 73 = .ok (.getfield 78, 3) := by decide +kernel
theorem dX10_worthOfWay_76 : decode cX10_worthOfWay 76 = .ok (.iload_n 3, 1) := by decide +kernel
theorem dX10_worthOfWay_77 : decode cX10_worthOfWay 77 = .ok (.iaload, 1) := by decide +kernel
theorem dX10_worthOfWay_78 : decode cX10_worthOfWay 78 = .ok (.aload_n 0, 1) := by decide +kernel
theorem dX10_worthOfWay_79 : decode cX10_worthOfWay 79 = .ok (.getfield 78, 3) := by decide +kernel
theorem dX10_worthOfWay_82 : decode cX10_worthOfWay 82 = .ok (.iload_n 3, 1) := by decide +kernel
theorem dX10_worthOfWay_83 : decode cX10_worthOfWay 83 = .ok (.iconst 1, 1) := by decide +kernel
theorem dX10_worthOfWay_84 : decode cX10_worthOfWay 84 = .ok (.isub, 1) := by decide +kernel
theorem dX10_worthOfWay_85 : decode cX10_worthOfWay 85 = .ok (.iaload, 1) := by decide +kernel
theorem dX10_worthOfWay_86 : decode cX10_worthOfWay 86 = .ok (.isub, 1) := by decide +kernel
theorem dX10_worthOfWay_87 : decode cX10_worthOfWay 87 = .ok (.iconst 1, 1) := by decide +kernel
theorem dX10_worthOfWay_88 : decode cX10_worthOfWay 88 = .ok (.isub, 1) := by decide +kernel
theorem dX10_worthOfWay_89 : decode cX10_worthOfWay 89 = .ok (.istore 4, 2) := by decide +kernel
theorem dX10_worthOfWay_91 : decode cX10_worthOfWay 91 = .ok (.iload 4, 2) := by decide +kernel
theorem dX10_worthOfWay_93 : decode cX10_worthOfWay 93 = .ok (.ifCond .ne 15, 3) := by decide +kernel
theorem dX10_worthOfWay_96 : decode cX10_worthOfWay 96 = .ok (.iload_n 2, 1) := by decide +kernel
theorem dX10_worthOfWay_97 : decode cX10_worthOfWay 97 = .ok (.aload_n 0, 1) := by decide +kernel
theorem dX10_worthOfWay_98 : decode cX10_worthOfWay 98 = .ok (.getfield 28, 3) := by decide +kernel
theorem dX10_worthOfWay_101 : decode cX10_worthOfWay 101 = .ok (.iconst 1, 1) := by decide +kernel
theorem dX10_worthOfWay_102 : decode cX10_worthOfWay 102 = .ok (.iaload, 1) := by decide +kernel
theorem dX10_worthOfWay_103 : decode cX10_worthOfWay 103 = .ok (.iadd, 1) := by decide +kernel
theorem dX10_worthOfWay_104 : decode cX10_worthOfWay 104 = .ok (.istore_n 2, 1) := by decide +kernel
theorem dX10_worthOfWay_105 : decode cX10_worthOfWay 105 = .ok (.goto 25, 3) := by decide +kernel
theorem dX10_worthOfWay_108 : decode cX10_worthOfWay 108 = .ok (.aload_n 0, 1) := by decide +kernel
theorem dX10_worthOfWay_109 : decode cX10_worthOfWay 109 = .ok (.getfield 19, 3) := by decide +kernel
theorem dX10_worthOfWay_112 : decode cX10_worthOfWay 112 = .ok (.iload_n 1, 1) := by decide +kernel
theorem dX10_worthOfWay_113 : decode cX10_worthOfWay 113 = .ok (.iaload, 1) := by decide +kernel
theorem dX10_worthOfWay_114 : decode cX10_worthOfWay 114 = .ok (.iconst 3, 1) := by decide +kernel
theorem dX10_worthOfWay_115 : decode cX10_worthOfWay 115 = .ok (.if_icmp .eq 15, 3) := by decide +kernel
theorem dX10_worthOfWay_118 : decode cX10_worthOfWay 118 = .ok (.iload_n 2, 1) := by decide +kernel
theorem dX10_worthOfWay_119 : decode cX10_worthOfWay 119 = .ok (.aload_n 0, 1) := by decide +kernel
theorem dX10_worthOfWay_120 : decode cX10_worthOfWay 120 = .ok (.getfield 28, 3) := by decide +kernel
theorem dX10_worthOfWay_123 : decode cX10_worthOfWay 123 = .ok (.iconst 2, 1) := by decide +kernel
theorem dX10_worthOfWay_124 : decode cX10_worthOfWay 124 = .ok (.iaload, 1) := by decide +kernel
theorem dX10_worthOfWay_125 : decode cX10_worthOfWay 125 = .ok (.iload 4, 2) := by decide +kernel
theorem dX10_worthOfWay_127 : decode cX10_worthOfWay 127 = .ok (.imul, 1) := by decide +kernel
theorem dX10_worthOfWay_128 : decode cX10_worthOfWay 128 = .ok (.isub, 1) := by decide +kernel
theorem dX10_worthOfWay_129 : decode cX10_worthOfWay 129 = .ok (.istore_n 2, 1) := by decide +kernel
theorem dX10_worthOfWay_130 : decode cX10_worthOfWay 130 = .ok (.iinc 3 1, 3) := by decide +kernel
theorem dX10_worthOfWay_133 : decode cX10_worthOfWay 133 = .ok (.goto (-129), 3) := by decide +kernel
theorem dX10_worthOfWay_136 : decode cX10_worthOfWay 136 = .ok (.iload_n 2, 1) := by decide +kernel
theorem dX10_worthOfWay_137 : decode cX10_worthOfWay 137 = .ok (.ireturn, 1) := by decide +kernel
theorem dX10_waysOf_0 : decode cX10_waysOf 0 = .ok (.aload_n 0, 1) := by decide +kernel
theorem dX10_waysOf_1 : decode cX10_waysOf 1 = .ok (.bipush (-4), 2) := by decide +kernel
theorem dX10_waysOf_3 : decode cX10_waysOf 3 = .ok (.putfield 167, 3) := by decide +kernel
theorem dX10_waysOf_6 : decode cX10_waysOf 6 = .ok (.aload_n 0, 1) := by decide +kernel
theorem dX10_waysOf_7 : decode cX10_waysOf 7 = .ok (.getfield 160, 3) := by decide +kernel
theorem dX10_waysOf_10 : decode cX10_waysOf 10 = .ok (.aload_n 0, 1) := by decide +kernel
theorem dX10_waysOf_11 : decode cX10_waysOf 11 = .ok (.getfield 16, 3) := by decide +kernel
theorem dX10_waysOf_14 : decode cX10_waysOf 14 = .ok (.iload_n 1, 1) := by decide +kernel
theorem dX10_waysOf_15 : decode cX10_waysOf 15 = .ok (.iaload, 1) := by decide +kernel
theorem dX10_waysOf_16 : decode cX10_waysOf 16 = .ok (.if_icmp .le 5, 3) := by decide +kernel
theorem dX10_waysOf_19 : decode cX10_waysOf 19 = .ok (.iconst 0, 1) := by decide +kernel
theorem dX10_waysOf_20 : decode cX10_waysOf 20 = .ok (.ireturn, 1) := by decide +kernel
theorem dX10_waysOf_21 : decode cX10_waysOf 21 = .ok (.iconst 0, 1) := by decide +kernel
theorem dX10_waysOf_22 : decode cX10_waysOf 22 = .ok (.istore_n 2, 1) := by decide +kernel
theorem dX10_waysOf_23 : decode cX10_waysOf 23 = .ok (.iload_n 2, 1) := by decide +kernel
theorem dX10_waysOf_24 : decode cX10_waysOf 24 = .ok (.aload_n 0, 1) := by decide +kernel
theorem dX10_waysOf_25 : decode cX10_waysOf 25 = .ok (.getfield 160, 3) := by decide +kernel
theorem dX10_waysOf_28 : decode cX10_waysOf 28 = .ok (.if_icmp .ge 16, 3) := by decide +kernel
theorem dX10_waysOf_31 : decode cX10_waysOf 31 = .ok (.aload_n 0, 1) := by decide +kernel
theorem dX10_waysOf_32 : decode cX10_waysOf 32 = .ok (.getfield 78, 3) := by decide +kernel
theorem dX10_waysOf_35 : decode cX10_waysOf 35 = .ok (.iload_n 2, 1) := by decide +kernel
theorem dX10_waysOf_36 : decode cX10_waysOf 36 = .ok (.iload_n 2, 1) := by decide +kernel
theorem dX10_waysOf_37 : decode cX10_waysOf 37 = .ok (.iastore, 1) := by decide +kernel
theorem dX10_waysOf_38 : decode cX10_waysOf 38 = .ok (.iinc 2 1, 3) := by decide +kernel
theorem dX10_waysOf_41 : decode cX10_waysOf 41 = .ok (.goto (-18), 3) := by decide +kernel
theorem dX10_waysOf_44 : decode cX10_waysOf 44 = .ok (.iconst 0, 1) := by decide +kernel
theorem dX10_waysOf_45 : decode cX10_waysOf 45 = .ok (.istore_n 2, 1) := by decide +kernel
theorem dX10_waysOf_46 : decode cX10_waysOf 46 = .ok (.iconst 1, 1) := by decide +kernel
theorem dX10_waysOf_47 : decode cX10_waysOf 47 = .ok (.istore_n 3, 1) := by decide +kernel
theorem dX10_waysOf_48 : decode cX10_waysOf 48 = .ok (.iload_n 3, 1) := by decide +kernel
theorem dX10_waysOf_49 : decode cX10_waysOf 49 = .ok (.ifCond .eq 87, 3) := by decide +kernel
theorem dX10_waysOf_52 : decode cX10_waysOf 52 = .ok (.aload_n 0, 1) := by decide +kernel
theorem dX10_waysOf_53 : decode cX10_waysOf 53 = .ok (.iload_n 1, 1) := by decide +kernel
theorem dX10_waysOf_54 : decode cX10_waysOf 54 = .ok (.invokevirtual 170, 3) := by decide +kernel
theorem dX10_waysOf_57 : decode cX10_waysOf 57 = .ok (.ifCond .eq 65, 3) := by decide +kernel
theorem dX10_waysOf_60 : decode cX10_waysOf 60 = .ok (.iinc 2 1, 3) := by decide +kernel
theorem dX10_waysOf_63 : decode cX10_waysOf 63 = .ok (.aload_n 0, 1) := by decide +kernel
theorem dX10_waysOf_64 : decode cX10_waysOf 64 = .ok (.iload_n 1, 1) := by decide +kernel
theorem dX10_waysOf_65 : decode cX10_waysOf 65 = .ok (.invokevirtual 173, 3) := by decide +kernel
theorem dX10_waysOf_68 : decode cX10_waysOf 68 = .ok (.istore 4, 2) := by decide +kernel
theorem dX10_waysOf_70 : decode cX10_waysOf 70 = .ok (.iload_n 2, 1) := by decide +kernel
theorem dX10_waysOf_71 : decode cX10_waysOf 71 = .ok (.iconst 1, 1) := by decide +kernel
theorem dX10_waysOf_72 : decode cX10_waysOf 72 = .ok (.if_icmp .eq 12, 3) := by decide +kernel
theorem dX10_waysOf_75 : decode cX10_waysOf 75 = .ok (.iload 4, 2) := by decide +kernel
theorem dX10_waysOf_77 : decode cX10_waysOf 77 = .ok (.aload_n 0, 1) := by decide +kernel
theorem dX10_waysOf_78 : decode cX10_waysOf 78 = .ok (.getfield 167, 3) := by decide +kernel
theorem dX10_waysOf_81 : decode cX10_waysOf 81 = .ok (.if_icmp .le 41, 3) := by decide +kernel
theorem dX10_waysOf_84 : decode cX10_waysOf 84 = .ok (.aload_n 0, 1) := by decide +kernel
theorem dX10_waysOf_85 : decode cX10_waysOf 85 = .ok (.iload 4, 2) := by decide +kernel
theorem dX10_waysOf_87 : decode cX10_waysOf 87 = .ok (.putfield 167, 3) := by decide +kernel
theorem dX10_waysOf_90 : decode cX10_waysOf 90 = .ok (.iconst 0, 1) := by decide +kernel
theorem dX10_waysOf_91 : decode cX10_waysOf 91 = .ok (.istore 5, 2) := by decide +kernel
theorem dX10_waysOf_93 : decode cX10_waysOf 93 = .ok (.iload 5, 2) := by decide +kernel
theorem dX10_waysOf_95 : decode cX10_waysOf 95 = .ok (.aload_n 0, 1) := by decide +kernel
theorem dX10_waysOf_96 : decode cX10_waysOf 96 = .ok (.getfield 160, 3) := by decide +kernel
theorem dX10_waysOf_99 : decode cX10_waysOf 99 = .ok (.if_icmp .ge 23, 3) := by decide +kernel
theorem dX10_waysOf_102 : decode cX10_waysOf 102 = .ok (.aload_n 0, 1) := by decide +kernel
theorem dX10_waysOf_103 : decode cX10_waysOf 103 = .ok (.getfield 81, 3) := by decide +kernel
theorem dX10_waysOf_106 : decode cX10_waysOf 106 = .ok (.iload 5, 2) := by decide +kernel
theorem dX10_waysOf_108 : decode cX10_waysOf 108 = .ok (.aload_n 0, 1) := by decide +kernel
theorem dX10_waysOf_109 : decode cX10_waysOf 109 = .ok (.getfield 78, 3) := by decide +kernel
theorem dX10_waysOf_112 : decode cX10_waysOf 112 = .ok (.iload 5, 2) := by decide +kernel
theorem dX10_waysOf_114 : decode cX10_waysOf 114 = .ok (.iaload, 1) := by decide +kernel
theorem dX10_waysOf_115 : decode cX10_waysOf 115 = .ok (.iastore, 1) := by decide +kernel
theorem dX10_waysOf_116 : decode cX10_waysOf 116 = .ok (.iinc 5 1, 3) := by decide +kernel
theorem dX10_waysOf_119 : decode cX10_waysOf 119 = .ok (.goto (-26), 3) := by decide +kernel
theorem dX10_waysOf_122 : decode cX10_waysOf 122 = .ok (.aload_n 0, 1) := by decide +kernel
theorem dX10_waysOf_123 : decode cX10_waysOf 123 = .ok (.aload_n 0, 1) := by decide +kernel
theorem dX10_waysOf_124 : decode cX10_waysOf 124 = .ok (.getfield 16, 3) := by decide +kernel
theorem dX10_waysOf_127 : decode cX10_waysOf 127 = .ok (.iload_n 1, 1) := by decide +kernel
theorem dX10_waysOf_128 : decode cX10_waysOf 128 = .ok (.iaload, 1) := by decide +kernel
theorem dX10_waysOf_129 : decode cX10_waysOf 129 = .ok (.invokevirtual 176, 3) := by decide +kernel
theorem dX10_waysOf_132 : decode cX10_waysOf 132 = .ok (.istore_n 3, 1) := by decide +kernel
theorem dX10_waysOf_133 : decode cX10_waysOf 133 = .ok (.goto (-85), 3) := by decide +kernel
theorem dX10_waysOf_136 : decode cX10_waysOf 136 = .ok (.iload_n 2, 1) := by decide +kernel
theorem dX10_waysOf_137 : decode cX10_waysOf 137 = .ok (.ireturn, 1) := by decide +kernel
theorem dX10_triesWord_0 : decode cX10_triesWord 0 = .ok (.aload_n 0, 1) := by decide +kernel
theorem dX10_triesWord_1 : decode cX10_triesWord 1 = .ok (.aload_n 0, 1) := by decide +kernel
theorem dX10_triesWord_2 : decode cX10_triesWord 2 = .ok (.getfield 139, 3) := by decide +kernel
theorem dX10_triesWord_5 : decode cX10_triesWord 5 = .ok (.putfield 160, 3) := by decide +kernel
theorem dX10_triesWord_8 : decode cX10_triesWord 8 = .ok (.iconst 0, 1) := by decide +kernel
theorem dX10_triesWord_9 : decode cX10_triesWord 9 = .ok (.istore_n 1, 1) := by decide +kernel
theorem dX10_triesWord_10 : decode cX10_triesWord 10 = .ok (.iload_n 1, 1) := by decide +kernel
theorem dX10_triesWord_11 : decode cX10_triesWord 11 = .ok (.aload_n 0, 1) := by decide +kernel
theorem dX10_triesWord_12 : decode cX10_triesWord 12 = .ok (.getfield 139, 3) := by decide +kernel
theorem dX10_triesWord_15 : decode cX10_triesWord 15 = .ok (.if_icmp .ge 21, 3) := by decide +kernel
theorem dX10_triesWord_18 : decode cX10_triesWord 18 = .ok (.aload_n 0, 1) := by decide +kernel
theorem dX10_triesWord_19 : decode cX10_triesWord 19 = .ok (.getfield 75, 3) := by decide +kernel
theorem dX10_triesWord_22 : decode cX10_triesWord 22 = .ok (.iload_n 1, 1) := by decide +kernel
theorem dX10_triesWord_23 : decode cX10_triesWord 23 = .ok (.aload_n 0, 1) := by decide +kernel
theorem dX10_triesWord_24 : decode cX10_triesWord 24 = .ok (.getfield 43, 3) := by decide +kernel
theorem dX10_triesWord_27 : decode cX10_triesWord 27 = .ok (.iload_n 1, 1) := by decide +kernel
theorem dX10_triesWord_28 : decode cX10_triesWord 28 = .ok (.iaload, 1) := by decide +kernel
theorem dX10_triesWord_29 : decode cX10_triesWord 29 = .ok (.iastore, 1) := by decide +kernel
theorem dX10_triesWord_30 : decode cX10_triesWord 30 = .ok (.iinc 1 1, 3) := by decide +kernel
theorem dX10_triesWord_33 : decode cX10_triesWord 33 = .ok (.goto (-23), 3) := by decide +kernel
theorem dX10_triesWord_36 : decode cX10_triesWord 36 = .ok (.return_, 1) := by decide +kernel
theorem dX10_has_0 : decode cX10_has 0 = .ok (.iconst 0, 1) := by decide +kernel
theorem dX10_has_1 : decode cX10_has 1 = .ok (.istore_n 3, 1) := by decide +kernel
theorem dX10_has_2 : decode cX10_has 2 = .ok (.iload_n 3, 1) := by decide +kernel
theorem dX10_has_3 : decode cX10_has 3 = .ok (.aload_n 0, 1) := by decide +kernel
theorem dX10_has_4 : decode cX10_has 4 = .ok (.getfield 16, 3) := by decide +kernel
theorem dX10_has_7 : decode cX10_has 7 = .ok (.iload_n 1, 1) := by decide +kernel
theorem dX10_has_8 : decode cX10_has 8 = .ok (.iaload, 1) := by decide +kernel
theorem dX10_has_9 : decode cX10_has 9 = .ok (.if_icmp .ge 29, 3) := by decide +kernel
theorem dX10_has_12 : decode cX10_has 12 = .ok (.aload_n 0, 1) := by decide +kernel
theorem dX10_has_13 : decode cX10_has 13 = .ok (.getfield 13, 3) := by decide +kernel
theorem dX10_has_16 : decode cX10_has 16 = .ok (.bipush 12, 2) := by decide +kernel
theorem dX10_has_18 : decode cX10_has 18 = .ok (.iload_n 1, 1) := by decide +kernel
theorem dX10_has_19 : decode cX10_has 19 = .ok (.imul, 1) := by decide +kernel
theorem dX10_has_20 : decode cX10_has 20 = .ok (.iload_n 3, 1) := by decide +kernel
theorem dX10_has_21 : decode cX10_has 21 = .ok (.iadd, 1) := by decide +kernel
theorem dX10_has_22 : decode cX10_has 22 = .ok (.iaload, 1) := by decide +kernel
theorem dX10_has_23 : decode cX10_has 23 = .ok (.invokestatic 157, 3) := by decide +kernel
theorem dX10_has_26 : decode cX10_has 26 = .ok (.iload_n 2, 1) := by decide +kernel
theorem dX10_has_27 : decode cX10_has 27 = .ok (.if_icmp .ne 5, 3) := by decide +kernel
theorem dX10_has_30 : decode cX10_has 30 = .ok (.iconst 1, 1) := by decide +kernel
theorem dX10_has_31 : decode cX10_has 31 = .ok (.ireturn, 1) := by decide +kernel
theorem dX10_has_32 : decode cX10_has 32 = .ok (.iinc 3 1, 3) := by decide +kernel
theorem dX10_has_35 : decode cX10_has 35 = .ok (.goto (-33), 3) := by decide +kernel
theorem dX10_has_38 : decode cX10_has 38 = .ok (.iconst 0, 1) := by decide +kernel
theorem dX10_has_39 : decode cX10_has 39 = .ok (.ireturn, 1) := by decide +kernel
theorem dX10_passing_0 : decode cX10_passing 0 = .ok (.iconst 0, 1) := by decide +kernel
theorem dX10_passing_1 : decode cX10_passing 1 = .ok (.istore_n 2, 1) := by decide +kernel
theorem dX10_passing_2 : decode cX10_passing 2 = .ok (.iload_n 2, 1) := by decide +kernel
theorem dX10_passing_3 : decode cX10_passing 3 = .ok (.aload_n 0, 1) := by decide +kernel
theorem dX10_passing_4 : decode cX10_passing 4 = .ok (.getfield 139, 3) := by decide +kernel
theorem dX10_passing_7 : decode cX10_passing 7 = .ok (.if_icmp .ge 28, 3) := by decide +kernel
theorem dX10_passing_10 : decode cX10_passing 10 = .ok (.aload_n 0, 1) := by decide +kernel
theorem dX10_passing_11 : decode cX10_passing 11 = .ok (.iload_n 1, 1) := by decide +kernel
theorem dX10_passing_12 : decode cX10_passing 12 = .ok (.aload_n 0, 1) := by decide +kernel
theorem dX10_passing_13 : decode cX10_passing 13 = .ok (.getfield 43, 3) := by decide +kernel
theorem dX10_passing_16 : decode cX10_passing 16 = .ok (.iload_n 2, 1) := by decide +kernel
theorem dX10_passing_17 : decode cX10_passing 17 = .ok (.iaload, 1) := by decide +kernel
theorem dX10_passing_18 : decode cX10_passing 18 = .ok (.invokestatic 157, 3) := by decide +kernel
theorem dX10_passing_21 : decode cX10_passing 21 = .ok (.invokevirtual 179, 3) := by decide +kernel
theorem dX10_passing_24 : decode cX10_passing 24 = .ok (.ifCond .ne 5, 3) := by decide +kernel
theorem dX10_passing_27 : decode cX10_passing 27 = .ok (.iconst 0, 1) := by decide +kernel
theorem dX10_passing_28 : decode cX10_passing 28 = .ok (.ireturn, 1) := by decide +kernel
theorem dX10_passing_29 : decode cX10_passing 29 = .ok (.iinc 2 1, 3) := by decide +kernel
theorem dX10_passing_32 : decode cX10_passing 32 = .ok (.goto (-30), 3) := by decide +kernel
theorem dX10_passing_35 : decode cX10_passing 35 = .ok (.iconst 1, 1) := by decide +kernel
theorem dX10_passing_36 : decode cX10_passing 36 = .ok (.ireturn, 1) := by decide +kernel
theorem dX10_sought_0 : decode cX10_sought 0 = .ok (.aload_n 0, 1) := by decide +kernel
theorem dX10_sought_1 : decode cX10_sought 1 = .ok (.invokevirtual 182, 3) := by decide +kernel
theorem dX10_sought_4 : decode cX10_sought 4 = .ok (.lstore_n 2, 1) := by decide +kernel
theorem dX10_sought_5 : decode cX10_sought 5 = .ok (.ldc2_w 186, 3) := by decide +kernel
theorem dX10_sought_8 : decode cX10_sought 8 = .ok (.aload_n 0, 1) := by decide +kernel
theorem dX10_sought_9 : decode cX10_sought 9 = .ok (.getfield 22, 3) := by decide +kernel
theorem dX10_sought_12 : decode cX10_sought 12 = .ok (.iload_n 1, 1) := by decide +kernel
theorem dX10_sought_13 : decode cX10_sought 13 = .ok (.iaload, 1) := by decide +kernel
theorem dX10_sought_14 : decode cX10_sought 14 = .ok (.i2l, 1) := by decide +kernel
theorem dX10_sought_15 : decode cX10_sought 15 = .ok (.lmul, 1) := by decide +kernel
theorem dX10_sought_16 : decode cX10_sought 16 = .ok (.ldc2_w 188, 3) := by decide +kernel
theorem dX10_sought_19 : decode cX10_sought 19 = .ok (.lload_n 2, 1) := by decide +kernel
theorem dX10_sought_20 : decode cX10_sought 20 = .ok (.lmul, 1) := by decide +kernel
theorem dX10_sought_21 : decode cX10_sought 21 = .ok (.ladd, 1) := by decide +kernel
theorem dX10_sought_22 : decode cX10_sought 22 = .ok (.aload_n 0, 1) := by decide +kernel
theorem dX10_sought_23 : decode cX10_sought 23 = .ok (.getfield 52, 3) := by decide +kernel
theorem dX10_sought_26 : decode cX10_sought 26 = .ok (.i2l, 1) := by decide +kernel
theorem dX10_sought_27 : decode cX10_sought 27 = .ok (.ladd, 1) := by decide +kernel
theorem dX10_sought_28 : decode cX10_sought 28 = .ok (.ldc2_w 190, 3) := by decide +kernel
theorem dX10_sought_31 : decode cX10_sought 31 = .ok (.lrem, 1) := by decide +kernel
theorem dX10_sought_32 : decode cX10_sought 32 = .ok (.l2i, 1) := by decide +kernel
theorem dX10_sought_33 : decode cX10_sought 33 = .ok (.istore 4, 2) := by decide +kernel
theorem dX10_sought_35 : decode cX10_sought 35 = .ok (.aload_n 0, 1) := by decide +kernel
theorem dX10_sought_36 : decode cX10_sought 36 = .ok (.getfield 63, 3) := by decide +kernel
theorem dX10_sought_39 : decode cX10_sought 39 = .ok (.iload 4, 2) := by decide +kernel
theorem dX10_sought_41 : decode cX10_sought 41 = .ok (.iaload, 1) := by decide +kernel
theorem dX10_sought_42 : decode cX10_sought 42 = .ok (.aload_n 0, 1) := by decide +kernel
theorem dX10_sought_43 : decode cX10_sought 43 = .ok (.getfield 22, 3) := by decide +kernel
theorem dX10_sought_46 : decode cX10_sought 46 = .ok (.iload_n 1, 1) := by decide +kernel
theorem dX10_sought_47 : decode cX10_sought 47 = .ok (.iaload, 1) := by decide +kernel
theorem dX10_sought_48 : decode cX10_sought 48 = .ok (.if_icmp .ne 47, 3) := by decide +kernel
theorem dX10_sought_51 : decode cX10_sought 51 = .ok (.aload_n 0, 1) := by decide +kernel
theorem dX10_sought_52 : decode cX10_sought 52 = .ok (.getfield 66, 3) := by decide +kernel
theorem dX10_sought_55 : decode cX10_sought 55 = .ok (.iload 4, 2) := by decide +kernel
theorem dX10_sought_57 : decode cX10_sought 57 = .ok (.laload, 1) := by decide +kernel
theorem dX10_sought_58 : decode cX10_sought 58 = .ok (.lload_n 2, 1) := by decide +kernel
theorem dX10_sought_59 : decode cX10_sought 59 = .ok (.lcmp, 1) := by decide +kernel
theorem dX10_sought_60 : decode cX10_sought 60 = .ok (.ifCond .ne 35, 3) := by decide +kernel
theorem dX10_sought_63 : decode cX10_sought 63 = .ok (.aload_n 0, 1) := by decide +kernel
theorem dX10_sought_64 : decode cX10_sought 64 = .ok (.getfield 69, 3) := by decide +kernel
theorem dX10_sought_67 : decode cX10_sought 67 = .ok (.iload 4, 2) := by decide +kernel
theorem dX10_sought_69 : decode cX10_sought 69 = .ok (.iaload, 1) := by decide +kernel
theorem dX10_sought_70 : decode cX10_sought 70 = .ok (.aload_n 0, 1) := by decide +kernel
theorem dX10_sought_71 : decode cX10_sought 71 = .ok (.getfield 52, 3) := by decide +kernel
theorem dX10_sought_74 : decode cX10_sought 74 = .ok (.if_icmp .ne 21, 3) := by decide +kernel
theorem dX10_sought_77 : decode cX10_sought 77 = .ok (.aload_n 0, 1) := by decide +kernel
theorem dX10_sought_78 : decode cX10_sought 78 = .ok (.dup, 1) := by decide +kernel
theorem dX10_sought_79 : decode cX10_sought 79 = .ok (.getfield 192, 3) := by decide +kernel
theorem dX10_sought_82 : decode cX10_sought 82 = .ok (.iconst 1, 1) := by decide +kernel
theorem dX10_sought_83 : decode cX10_sought 83 = .ok (.iadd, 1) := by decide +kernel
theorem dX10_sought_84 : decode cX10_sought 84 = .ok (.putfield 192, 3) := by decide +kernel
theorem dX10_sought_87 : decode cX10_sought 87 = .ok (.aload_n 0, 1) := by decide +kernel
theorem dX10_sought_88 : decode cX10_sought 88 = .ok (.getfield 72, 3) := by decide +kernel
theorem dX10_sought_91 : decode cX10_sought 91 = .ok (.iload 4, 2) := by decide +kernel
theorem dX10_sought_93 : decode cX10_sought 93 = .ok (.iaload, 1) := by decide +kernel
theorem dX10_sought_94 : decode cX10_sought 94 = .ok (.ireturn, 1) := by decide +kernel
theorem dX10_sought_95 : decode cX10_sought 95 = .ok (.aload_n 0, 1) := by decide +kernel
theorem dX10_sought_96 : decode cX10_sought 96 = .ok (.dup, 1) := by decide +kernel
theorem dX10_sought_97 : decode cX10_sought 97 = .ok (.getfield 195, 3) := by decide +kernel
theorem dX10_sought_100 : decode cX10_sought 100 = .ok (.iconst 1, 1) := by decide +kernel
theorem dX10_sought_101 : decode cX10_sought 101 = .ok (.iadd, 1) := by decide +kernel
theorem dX10_sought_102 : decode cX10_sought 102 = .ok (.putfield 195, 3) := by decide +kernel
theorem dX10_sought_105 : decode cX10_sought 105 = .ok (.aload_n 0, 1) := by decide +kernel
theorem dX10_sought_106 : decode cX10_sought 106 = .ok (.invokevirtual 198, 3) := by decide +kernel
theorem dX10_sought_109 : decode cX10_sought 109 = .ok (.aload_n 0, 1) := by decide +kernel
theorem dX10_sought_110 : decode cX10_sought 110 = .ok (.iload_n 1, 1) := by decide +kernel
theorem dX10_sought_111 : decode cX10_sought 111 = .ok (.invokevirtual 201, 3) := by decide +kernel
theorem dX10_sought_114 : decode cX10_sought 114 = .ok (.pop, 1) := by decide +kernel
theorem dX10_sought_115 : decode cX10_sought 115 = .ok (.aload_n 0, 1) := by decide +kernel
theorem dX10_sought_116 : decode cX10_sought 116 = .ok (.getfield 63, 3) := by decide +kernel
theorem dX10_sought_119 : decode cX10_sought 119 = .ok (.iload 4, 2) := by decide +kernel
theorem dX10_sought_121 : decode cX10_sought 121 = .ok (.aload_n 0, 1) := by decide +kernel
theorem dX10_sought_122 : decode cX10_sought 122 = .ok (.getfield 22, 3) := by decide +kernel
theorem dX10_sought_125 : decode cX10_sought 125 = .ok (.iload_n 1, 1) := by decide +kernel
theorem dX10_sought_126 : decode cX10_sought 126 = .ok (.iaload, 1) := by decide +kernel
theorem dX10_sought_127 : decode cX10_sought 127 = .ok (.iastore, 1) := by decide +kernel
theorem dX10_sought_128 : decode cX10_sought 128 = .ok (.aload_n 0, 1) := by decide +kernel
theorem dX10_sought_129 : decode cX10_sought 129 = .ok (.getfield 66, 3) := by decide +kernel
theorem dX10_sought_132 : decode cX10_sought 132 = .ok (.iload 4, 2) := by decide +kernel
theorem dX10_sought_134 : decode cX10_sought 134 = .ok (.lload_n 2, 1) := by decide +kernel
theorem dX10_sought_135 : decode cX10_sought 135 = .ok (.lastore, 1) := by decide +kernel
theorem dX10_sought_136 : decode cX10_sought 136 = .ok (.aload_n 0, 1) := by decide +kernel
theorem dX10_sought_137 : decode cX10_sought 137 = .ok (.getfield 69, 3) := by decide +kernel
theorem dX10_sought_140 : decode cX10_sought 140 = .ok (.iload 4, 2) := by decide +kernel
theorem dX10_sought_142 : decode cX10_sought 142 = .ok (.aload_n 0, 1) := by decide +kernel
theorem dX10_sought_143 : decode cX10_sought 143 = .ok (.getfield 52, 3) := by decide +kernel
theorem dX10_sought_146 : decode cX10_sought 146 = .ok (.iastore, 1) := by decide +kernel
theorem dX10_sought_147 : decode cX10_sought 147 = .ok (.aload_n 0, 1) := by decide +kernel
theorem dX10_sought_148 : decode cX10_sought 148 = .ok (.getfield 72, 3) := by decide +kernel
theorem dX10_sought_151 : decode cX10_sought 151 = .ok (.iload 4, 2) := by decide +kernel
theorem dX10_sought_153 : decode cX10_sought 153 = .ok (.aload_n 0, 1) := by decide +kernel
theorem dX10_sought_154 : decode cX10_sought 154 = .ok (.getfield 167, 3) := by decide +kernel
theorem dX10_sought_157 : decode cX10_sought 157 = .ok (.iastore, 1) := by decide +kernel
theorem dX10_sought_158 : decode cX10_sought 158 = .ok (.aload_n 0, 1) := by decide +kernel
theorem dX10_sought_159 : decode cX10_sought 159 = .ok (.getfield 167, 3) := by decide +kernel
theorem dX10_sought_162 : decode cX10_sought 162 = .ok (.ireturn, 1) := by decide +kernel
theorem dX10_score_0 : decode cX10_score 0 = .ok (.aload_n 0, 1) := by decide +kernel
theorem dX10_score_1 : decode cX10_score 1 = .ok (.iload_n 1, 1) := by decide +kernel
theorem dX10_score_2 : decode cX10_score 2 = .ok (.invokevirtual 145, 3) := by decide +kernel
theorem dX10_score_5 : decode cX10_score 5 = .ok (.ifCond .eq 11, 3) := by decide +kernel
theorem dX10_score_8 : decode cX10_score 8 = .ok (.aload_n 0, 1) := by decide +kernel
theorem dX10_score_9 : decode cX10_score 9 = .ok (.iload_n 1, 1) := by decide +kernel
theorem dX10_score_10 : decode cX10_score 10 = .ok (.invokevirtual 204, 3) := by decide +kernel
theorem dX10_score_13 : decode cX10_score 13 = .ok (.goto 4, 3) := by decide +kernel
theorem dX10_score_16 : decode cX10_score 16 = .ok (.iconst (-1), 1) := by decide +kernel
theorem dX10_score_17 : decode cX10_score 17 = .ok (.ireturn, 1) := by decide +kernel
theorem dX10_isAhead_0 : decode cX10_isAhead 0 = .ok (.aload_n 0, 1) := by decide +kernel
theorem dX10_isAhead_1 : decode cX10_isAhead 1 = .ok (.getfield 84, 3) := by decide +kernel
theorem dX10_isAhead_4 : decode cX10_isAhead 4 = .ok (.iload_n 1, 1) := by decide +kernel
theorem dX10_isAhead_5 : decode cX10_isAhead 5 = .ok (.iaload, 1) := by decide +kernel
theorem dX10_isAhead_6 : decode cX10_isAhead 6 = .ok (.aload_n 0, 1) := by decide +kernel
theorem dX10_isAhead_7 : decode cX10_isAhead 7 = .ok (.getfield 84, 3) := by decide +kernel
theorem dX10_isAhead_10 : decode cX10_isAhead 10 = .ok (.iload_n 2, 1) := by decide +kernel
theorem dX10_isAhead_11 : decode cX10_isAhead 11 = .ok (.iaload, 1) := by decide +kernel
theorem dX10_isAhead_12 : decode cX10_isAhead 12 = .ok (.if_icmp .eq 24, 3) := by decide +kernel
theorem dX10_isAhead_15 : decode cX10_isAhead 15 = .ok (.aload_n 0, 1) := by decide +kernel
theorem dX10_isAhead_16 : decode cX10_isAhead 16 = .ok (.getfield 84, 3) := by decide +kernel
theorem dX10_isAhead_19 : decode cX10_isAhead 19 = .ok (.iload_n 1, 1) := by decide +kernel
theorem dX10_isAhead_20 : decode cX10_isAhead 20 = .ok (.iaload, 1) := by decide +kernel
theorem dX10_isAhead_21 : decode cX10_isAhead 21 = .ok (.aload_n 0, 1) := by decide +kernel
theorem dX10_isAhead_22 : decode cX10_isAhead 22 = .ok (.getfield 84, 3) := by decide +kernel
theorem dX10_isAhead_25 : decode cX10_isAhead 25 = .ok (.iload_n 2, 1) := by decide +kernel
theorem dX10_isAhead_26 : decode cX10_isAhead 26 = .ok (.iaload, 1) := by decide +kernel
theorem dX10_isAhead_27 : decode cX10_isAhead 27 = .ok (.if_icmp .le 7, 3) := by decide +kernel
theorem dX10_isAhead_30 : decode cX10_isAhead 30 = .ok (.iconst 1, 1) := by decide +kernel
theorem dX10_isAhead_31 : decode cX10_isAhead 31 = .ok (.goto 4, 3) := by decide +kernel
theorem dX10_isAhead_34 : decode cX10_isAhead 34 = .ok (.iconst 0, 1) := by decide +kernel
theorem dX10_isAhead_35 : decode cX10_isAhead 35 = .ok (.ireturn, 1) := by decide +kernel
theorem dX10_isAhead_36 : decode cX10_isAhead 36 = .ok (.aload_n 0, 1) := by decide +kernel
theorem dX10_isAhead_37 : decode cX10_isAhead 37 = .ok (.getfield 25, 3) := by decide +kernel
theorem dX10_isAhead_40 : decode cX10_isAhead 40 = .ok (.iload_n 1, 1) := by decide +kernel
theorem dX10_isAhead_41 : decode cX10_isAhead 41 = .ok (.iaload, 1) := by decide +kernel
theorem dX10_isAhead_42 : decode cX10_isAhead 42 = .ok (.aload_n 0, 1) := by decide +kernel
theorem dX10_isAhead_43 : decode cX10_isAhead 43 = .ok (.getfield 25, 3) := by decide +kernel
theorem dX10_isAhead_46 : decode cX10_isAhead 46 = .ok (.iload_n 2, 1) := by decide +kernel
theorem dX10_isAhead_47 : decode cX10_isAhead 47 = .ok (.iaload, 1) := by decide +kernel
theorem dX10_isAhead_48 : decode cX10_isAhead 48 = .ok (.if_icmp .eq 24, 3) := by decide +kernel
theorem dX10_isAhead_51 : decode cX10_isAhead 51 = .ok (.aload_n 0, 1) := by decide +kernel
theorem dX10_isAhead_52 : decode cX10_isAhead 52 = .ok (.getfield 25, 3) := by decide +kernel
theorem dX10_isAhead_55 : decode cX10_isAhead 55 = .ok (.iload_n 1, 1) := by decide +kernel
theorem dX10_isAhead_56 : decode cX10_isAhead 56 = .ok (.iaload, 1) := by decide +kernel
theorem dX10_isAhead_57 : decode cX10_isAhead 57 = .ok (.aload_n 0, 1) := by decide +kernel
theorem dX10_isAhead_58 : decode cX10_isAhead 58 = .ok (.getfield 25, 3) := by decide +kernel
theorem dX10_isAhead_61 : decode cX10_isAhead 61 = .ok (.iload_n 2, 1) := by decide +kernel
theorem dX10_isAhead_62 : decode cX10_isAhead 62 = .ok (.iaload, 1) := by decide +kernel
theorem dX10_isAhead_63 : decode cX10_isAhead 63 = .ok (.if_icmp .le 7, 3) := by decide +kernel
theorem dX10_isAhead_66 : decode cX10_isAhead 66 = .ok (.iconst 1, 1) := by decide +kernel
theorem dX10_isAhead_67 : decode cX10_isAhead 67 = .ok (.goto 4, 3) := by decide +kernel
theorem dX10_isAhead_70 : decode cX10_isAhead 70 = .ok (.iconst 0, 1) := by decide +kernel
theorem dX10_isAhead_71 : decode cX10_isAhead 71 = .ok (.ireturn, 1) := by decide +kernel
theorem dX10_isAhead_72 : decode cX10_isAhead 72 = .ok (.aload_n 0, 1) := by decide +kernel
theorem dX10_isAhead_73 : decode cX10_isAhead 73 = .ok (.getfield 16, 3) := by decide +kernel
theorem dX10_isAhead_76 : decode cX10_isAhead 76 = .ok (.iload_n 1, 1) := by decide +kernel
theorem dX10_isAhead_77 : decode cX10_isAhead 77 = .ok (.iaload, 1) := by decide +kernel
theorem dX10_isAhead_78 : decode cX10_isAhead 78 = .ok (.aload_n 0, 1) := by decide +kernel
theorem dX10_isAhead_79 : decode cX10_isAhead 79 = .ok (.getfield 16, 3) := by decide +kernel
theorem dX10_isAhead_82 : decode cX10_isAhead 82 = .ok (.iload_n 2, 1) := by decide +kernel
theorem dX10_isAhead_83 : decode cX10_isAhead 83 = .ok (.iaload, 1) := by decide +kernel
theorem dX10_isAhead_84 : decode cX10_isAhead 84 = .ok (.if_icmp .eq 24, 3) := by decide +kernel
theorem dX10_isAhead_87 : decode cX10_isAhead 87 = .ok (.aload_n 0, 1) := by decide +kernel
theorem dX10_isAhead_88 : decode cX10_isAhead 88 = .ok (.getfield 16, 3) := by decide +kernel
theorem dX10_isAhead_91 : decode cX10_isAhead 91 = .ok (.iload_n 1, 1) := by decide +kernel
theorem dX10_isAhead_92 : decode cX10_isAhead 92 = .ok (.iaload, 1) := by decide +kernel
theorem dX10_isAhead_93 : decode cX10_isAhead 93 = .ok (.aload_n 0, 1) := by decide +kernel
theorem dX10_isAhead_94 : decode cX10_isAhead 94 = .ok (.getfield 16, 3) := by decide +kernel
theorem dX10_isAhead_97 : decode cX10_isAhead 97 = .ok (.iload_n 2, 1) := by decide +kernel
theorem dX10_isAhead_98 : decode cX10_isAhead 98 = .ok (.iaload, 1) := by decide +kernel
theorem dX10_isAhead_99 : decode cX10_isAhead 99 = .ok (.if_icmp .ge 7, 3) := by decide +kernel
theorem dX10_isAhead_102 : decode cX10_isAhead 102 = .ok (.iconst 1, 1) := by decide +kernel
theorem dX10_isAhead_103 : decode cX10_isAhead 103 = .ok (.goto 4, 3) := by decide +kernel
theorem dX10_isAhead_106 : decode cX10_isAhead 106 = .ok (.iconst 0, 1) := by decide +kernel
theorem dX10_isAhead_107 : decode cX10_isAhead 107 = .ok (.ireturn, 1) := by decide +kernel
theorem dX10_isAhead_108 : decode cX10_isAhead 108 = .ok (.iload_n 1, 1) := by decide +kernel
theorem dX10_isAhead_109 : decode cX10_isAhead 109 = .ok (.iload_n 2, 1) := by decide +kernel
theorem dX10_isAhead_110 : decode cX10_isAhead 110 = .ok (.if_icmp .ge 7, 3) := by decide +kernel
theorem dX10_isAhead_113 : decode cX10_isAhead 113 = .ok (.iconst 1, 1) := by decide +kernel
theorem dX10_isAhead_114 : decode cX10_isAhead 114 = .ok (.goto 4, 3) := by decide +kernel
theorem dX10_isAhead_117 : decode cX10_isAhead 117 = .ok (.iconst 0, 1) := by decide +kernel
theorem dX10_isAhead_118 : decode cX10_isAhead 118 = .ok (.ireturn, 1) := by decide +kernel
theorem dX10_aheadOf_0 : decode cX10_aheadOf 0 = .ok (.iconst 0, 1) := by decide +kernel
theorem dX10_aheadOf_1 : decode cX10_aheadOf 1 = .ok (.istore_n 2, 1) := by decide +kernel
theorem dX10_aheadOf_2 : decode cX10_aheadOf 2 = .ok (.iconst 0, 1) := by decide +kernel
theorem dX10_aheadOf_3 : decode cX10_aheadOf 3 = .ok (.istore_n 3, 1) := by decide +kernel
theorem dX10_aheadOf_4 : decode cX10_aheadOf 4 = .ok (.iload_n 3, 1) := by decide +kernel
theorem dX10_aheadOf_5 : decode cX10_aheadOf 5 = .ok (.aload_n 0, 1) := by decide +kernel
theorem dX10_aheadOf_6 : decode cX10_aheadOf 6 = .ok (.getfield 99, 3) := by decide +kernel
theorem dX10_aheadOf_9 : decode cX10_aheadOf 9 = .ok (.if_icmp .ge 37, 3) := by decide +kernel
theorem dX10_aheadOf_12 : decode cX10_aheadOf 12 = .ok (.iload_n 3, 1) := by decide +kernel
theorem dX10_aheadOf_13 : decode cX10_aheadOf 13 = .ok (.iload_n 1, 1) := by decide +kernel
theorem dX10_aheadOf_14 : decode cX10_aheadOf 14 = .ok (.if_icmp .eq 26, 3) := by decide +kernel
theorem dX10_aheadOf_17 : decode cX10_aheadOf 17 = .ok (.aload_n 0, 1) := by decide +kernel
theorem dX10_aheadOf_18 : decode cX10_aheadOf 18 = .ok (.getfield 84, 3) := by decide +kernel
theorem dX10_aheadOf_21 : decode cX10_aheadOf 21 = .ok (.iload_n 3, 1) := by decide +kernel
theorem dX10_aheadOf_22 : decode cX10_aheadOf 22 = .ok (.iaload, 1) := by decide +kernel
theorem dX10_aheadOf_23 : decode cX10_aheadOf 23 = .ok (.bipush (-4), 2) := by decide +kernel
theorem dX10_aheadOf_25 : decode cX10_aheadOf 25 = .ok (.if_icmp .eq 15, 3) := by decide +kernel
theorem dX10_aheadOf_28 : decode cX10_aheadOf 28 = .ok (.aload_n 0, 1) := by decide +kernel
theorem dX10_aheadOf_29 : decode cX10_aheadOf 29 = .ok (.iload_n 3, 1) := by decide +kernel
theorem dX10_aheadOf_30 : decode cX10_aheadOf 30 = .ok (.iload_n 1, 1) := by decide +kernel
theorem dX10_aheadOf_31 : decode cX10_aheadOf 31 = .ok (.invokevirtual 207, 3) := by decide +kernel
theorem dX10_aheadOf_34 : decode cX10_aheadOf 34 = .ok (.ifCond .eq 6, 3) := by decide +kernel
theorem dX10_aheadOf_37 : decode cX10_aheadOf 37 = .ok (.iinc 2 1, 3) := by decide +kernel
theorem dX10_aheadOf_40 : decode cX10_aheadOf 40 = .ok (.iinc 3 1, 3) := by decide +kernel
theorem dX10_aheadOf_43 : decode cX10_aheadOf 43 = .ok (.goto (-39), 3) := by decide +kernel
theorem dX10_aheadOf_46 : decode cX10_aheadOf 46 = .ok (.iload_n 2, 1) := by decide +kernel
theorem dX10_aheadOf_47 : decode cX10_aheadOf 47 = .ok (.ireturn, 1) := by decide +kernel
theorem dX10_list_0 : decode cX10_list 0 = .ok (.iload_n 1, 1) := by decide +kernel
theorem dX10_list_1 : decode cX10_list 1 = .ok (.iconst (-1), 1) := by decide +kernel
theorem dX10_list_2 : decode cX10_list 2 = .ok (.if_icmp .ge 5, 3) := by decide +kernel
theorem dX10_list_5 : decode cX10_list 5 = .ok (.iconst (-1), 1) := by decide +kernel
theorem dX10_list_6 : decode cX10_list 6 = .ok (.ireturn, 1) := by decide +kernel
theorem dX10_list_7 : decode cX10_list 7 = .ok (.iload_n 1, 1) := by decide +kernel
theorem dX10_list_8 : decode cX10_list 8 = .ok (.iconst (-1), 1) := by decide +kernel
theorem dX10_list_9 : decode cX10_list 9 = .ok (.if_icmp .ne 58, 3) := by decide +kernel
theorem dX10_list_12 : decode cX10_list 12 = .ok (.iconst 5, 1) := by decide +kernel
theorem dX10_list_13 : decode cX10_list 13 = .ok (.istore_n 2, 1) := by decide +kernel
theorem dX10_list_14 : decode cX10_list 14 = .ok (.iload_n 2, 1) := by decide +kernel
theorem dX10_list_15 : decode cX10_list 15 = .ok (.ifCond .le 23, 3) := by decide +kernel
theorem dX10_list_18 : decode cX10_list 18 = .ok (.aload_n 0, 1) := by decide +kernel
theorem dX10_list_19 : decode cX10_list 19 = .ok (.getfield 59, 3) := by decide +kernel
theorem dX10_list_22 : decode cX10_list 22 = .ok (.iload_n 2, 1) := by decide +kernel
theorem dX10_list_23 : decode cX10_list 23 = .ok (.aload_n 0, 1) := by decide +kernel
theorem dX10_list_24 : decode cX10_list 24 = .ok (.getfield 59, 3) := by decide +kernel
theorem dX10_list_27 : decode cX10_list 27 = .ok (.iload_n 2, 1) := by decide +kernel
theorem dX10_list_28 : decode cX10_list 28 = .ok (.iconst 1, 1) := by decide +kernel
theorem dX10_list_29 : decode cX10_list 29 = .ok (.isub, 1) := by decide +kernel
theorem dX10_list_30 : decode cX10_list 30 = .ok (.laload, 1) := by decide +kernel
theorem dX10_list_31 : decode cX10_list 31 = .ok (.lastore, 1) := by decide +kernel
theorem dX10_list_32 : decode cX10_list 32 = .ok (.iinc 2 (-1), 3) := by decide +kernel
theorem dX10_list_35 : decode cX10_list 35 = .ok (.goto (-21), 3) := by decide +kernel
theorem dX10_list_38 : decode cX10_list 38 = .ok (.aload_n 0, 1) := by decide +kernel
theorem dX10_list_39 : decode cX10_list 39 = .ok (.getfield 59, 3) := by decide +kernel
theorem dX10_list_42 : decode cX10_list 42 = .ok (.iconst 0, 1) := by decide +kernel
theorem dX10_list_43 : decode cX10_list 43 = .ok (.aload_n 0, 1) := by decide +kernel
theorem dX10_list_44 : decode cX10_list 44 = .ok (.invokevirtual 182, 3) := by decide +kernel
theorem dX10_list_47 : decode cX10_list 47 = .ok (.lastore, 1) := by decide +kernel
theorem dX10_list_48 : decode cX10_list 48 = .ok (.aload_n 0, 1) := by decide +kernel
theorem dX10_list_49 : decode cX10_list 49 = .ok (.getfield 210, 3) := by decide +kernel
theorem dX10_list_52 : decode cX10_list 52 = .ok (.bipush 6, 2) := by decide +kernel
theorem dX10_list_54 : decode cX10_list 54 = .ok (.if_icmp .ge 13, 3) := by decide +kernel
theorem dX10_list_57 : decode cX10_list 57 = .ok (.aload_n 0, 1) := by decide +kernel
theorem dX10_list_58 : decode cX10_list 58 = .ok (.dup, 1) := by decide +kernel
theorem dX10_list_59 : decode cX10_list 59 = .ok (.getfield 210, 3) := by decide +kernel
theorem dX10_list_62 : decode cX10_list 62 = .ok (.iconst 1, 1) := by decide +kernel
theorem dX10_list_63 : decode cX10_list 63 = .ok (.iadd, 1) := by decide +kernel
theorem dX10_list_64 : decode cX10_list 64 = .ok (.putfield 210, 3) := by decide +kernel
theorem dX10_list_67 : decode cX10_list 67 = .ok (.iconst 0, 1) := by decide +kernel
theorem dX10_list_68 : decode cX10_list 68 = .ok (.istore_n 2, 1) := by decide +kernel
theorem dX10_list_69 : decode cX10_list 69 = .ok (.iconst 0, 1) := by decide +kernel
theorem dX10_list_70 : decode cX10_list 70 = .ok (.istore_n 3, 1) := by decide +kernel
theorem dX10_list_71 : decode cX10_list 71 = .ok (.iload_n 3, 1) := by decide +kernel
theorem dX10_list_72 : decode cX10_list 72 = .ok (.aload_n 0, 1) := by decide +kernel
theorem dX10_list_73 : decode cX10_list 73 = .ok (.getfield 99, 3) := by decide +kernel
theorem dX10_list_76 : decode cX10_list 76 = .ok (.if_icmp .ge 47, 3) := by decide +kernel
theorem dX10_list_79 : decode cX10_list 79 = .ok (.aload_n 0, 1) := by decide +kernel
theorem dX10_list_80 : decode cX10_list 80 = .ok (.getfield 84, 3) := by decide +kernel
theorem dX10_list_83 : decode cX10_list 83 = .ok (.iload_n 3, 1) := by decide +kernel
theorem dX10_list_84 : decode cX10_list 84 = .ok (.aload_n 0, 1) := by decide +kernel
theorem dX10_list_85 : decode cX10_list 85 = .ok (.iload_n 3, 1) := by decide +kernel
theorem dX10_list_86 : decode cX10_list 86 = .ok (.invokevirtual 213, 3) := by decide +kernel
theorem dX10_list_89 : decode cX10_list 89 = .ok (.ifCond .eq 11, 3) := by decide +kernel
theorem dX10_list_92 : decode cX10_list 92 = .ok (.aload_n 0, 1) := by decide +kernel
theorem dX10_list_93 : decode cX10_list 93 = .ok (.iload_n 3, 1) := by decide +kernel
theorem dX10_list_94 : decode cX10_list 94 = .ok (.invokevirtual 204, 3) := by decide +kernel
theorem dX10_list_97 : decode cX10_list 97 = .ok (.goto 5, 3) := by decide +kernel
theorem dX10_list_100 : decode cX10_list 100 = .ok (.bipush (-4), 2) := by decide +kernel
theorem dX10_list_102 : decode cX10_list 102 = .ok (.iastore, 1) := by decide +kernel
theorem dX10_list_103 : decode cX10_list 103 = .ok (.aload_n 0, 1) := by decide +kernel
theorem dX10_list_104 : decode cX10_list 104 = .ok (.getfield 84, 3) := by decide +kernel
theorem dX10_list_107 : decode cX10_list 107 = .ok (.iload_n 3, 1) := by decide +kernel
theorem dX10_list_108 : decode cX10_list 108 = .ok (.iaload, 1) := by decide +kernel
theorem dX10_list_109 : decode cX10_list 109 = .ok (.bipush (-4), 2) := by decide +kernel
theorem dX10_list_111 : decode cX10_list 111 = .ok (.if_icmp .eq 6, 3) := by decide +kernel
theorem dX10_list_114 : decode cX10_list 114 = .ok (.iinc 2 1, 3) := by decide +kernel
theorem dX10_list_117 : decode cX10_list 117 = .ok (.iinc 3 1, 3) := by decide +kernel
theorem dX10_list_120 : decode cX10_list 120 = .ok (.goto (-49), 3) := by decide +kernel
theorem dX10_list_123 : decode cX10_list 123 = .ok (.iload_n 1, 1) := by decide +kernel
theorem dX10_list_124 : decode cX10_list 124 = .ok (.iconst (-1), 1) := by decide +kernel
theorem dX10_list_125 : decode cX10_list 125 = .ok (.if_icmp .ne 5, 3) := by decide +kernel
theorem dX10_list_128 : decode cX10_list 128 = .ok (.iload_n 2, 1) := by decide +kernel
theorem dX10_list_129 : decode cX10_list 129 = .ok (.ireturn, 1) := by decide +kernel
theorem dX10_list_130 : decode cX10_list 130 = .ok (.iconst 0, 1) := by decide +kernel
theorem dX10_list_131 : decode cX10_list 131 = .ok (.istore_n 3, 1) := by decide +kernel
theorem dX10_list_132 : decode cX10_list 132 = .ok (.iload_n 3, 1) := by decide +kernel
theorem dX10_list_133 : decode cX10_list 133 = .ok (.aload_n 0, 1) := by decide +kernel
theorem dX10_list_134 : decode cX10_list 134 = .ok (.getfield 99, 3) := by decide +kernel
theorem dX10_list_137 : decode cX10_list 137 = .ok (.if_icmp .ge 31, 3) := by decide +kernel
theorem dX10_list_140 : decode cX10_list 140 = .ok (.aload_n 0, 1) := by decide +kernel
theorem dX10_list_141 : decode cX10_list 141 = .ok (.getfield 84, 3) := by decide +kernel
theorem dX10_list_144 : decode cX10_list 144 = .ok (.iload_n 3, 1) := by decide +kernel
theorem dX10_list_145 : decode cX10_list 145 = .ok (.iaload, 1) := by decide +kernel
theorem dX10_list_146 : decode cX10_list 146 = .ok (.bipush (-4), 2) := by decide +kernel
theorem dX10_list_148 : decode cX10_list 148 = .ok (.if_icmp .eq 14, 3) := by decide +kernel
theorem dX10_list_151 : decode cX10_list 151 = .ok (.aload_n 0, 1) := by decide +kernel
theorem dX10_list_152 : decode cX10_list 152 = .ok (.iload_n 3, 1) := by decide +kernel
theorem dX10_list_153 : decode cX10_list 153 = .ok (.invokevirtual 216, 3) := by decide +kernel
theorem dX10_list_156 : decode cX10_list 156 = .ok (.iload_n 1, 1) := by decide +kernel
theorem dX10_list_157 : decode cX10_list 157 = .ok (.if_icmp .ne 5, 3) := by decide +kernel
theorem dX10_list_160 : decode cX10_list 160 = .ok (.iload_n 3, 1) := by decide +kernel
theorem dX10_list_161 : decode cX10_list 161 = .ok (.ireturn, 1) := by decide +kernel
theorem dX10_list_162 : decode cX10_list 162 = .ok (.iinc 3 1, 3) := by decide +kernel
theorem dX10_list_165 : decode cX10_list 165 = .ok (.goto (-33), 3) := by decide +kernel
theorem dX10_list_168 : decode cX10_list 168 = .ok (.bipush (-4), 2) := by decide +kernel
theorem dX10_list_170 : decode cX10_list 170 = .ok (.ireturn, 1) := by decide +kernel
theorem dX10_best_0 : decode cX10_best 0 = .ok (.aload_n 0, 1) := by decide +kernel
theorem dX10_best_1 : decode cX10_best 1 = .ok (.iload_n 1, 1) := by decide +kernel
theorem dX10_best_2 : decode cX10_best 2 = .ok (.invokevirtual 145, 3) := by decide +kernel
theorem dX10_best_5 : decode cX10_best 5 = .ok (.ifCond .eq 7, 3) := by decide +kernel
theorem dX10_best_8 : decode cX10_best 8 = .ok (.iload_n 2, 1) := by decide +kernel
theorem dX10_best_9 : decode cX10_best 9 = .ok (.ifCond .ge 5, 3) := by decide +kernel
theorem dX10_best_12 : decode cX10_best 12 = .ok (.iconst (-1), 1) := by decide +kernel
theorem dX10_best_13 : decode cX10_best 13 = .ok (.ireturn, 1) := by decide +kernel
theorem dX10_best_14 : decode cX10_best 14 = .ok (.aload_n 0, 1) := by decide +kernel
theorem dX10_best_15 : decode cX10_best 15 = .ok (.invokevirtual 198, 3) := by decide +kernel
theorem dX10_best_18 : decode cX10_best 18 = .ok (.aload_n 0, 1) := by decide +kernel
theorem dX10_best_19 : decode cX10_best 19 = .ok (.iload_n 1, 1) := by decide +kernel
theorem dX10_best_20 : decode cX10_best 20 = .ok (.invokevirtual 201, 3) := by decide +kernel
theorem dX10_best_23 : decode cX10_best 23 = .ok (.ifCond .eq 11, 3) := by decide +kernel
theorem dX10_best_26 : decode cX10_best 26 = .ok (.iload_n 2, 1) := by decide +kernel
theorem dX10_best_27 : decode cX10_best 27 = .ok (.aload_n 0, 1) := by decide +kernel
theorem dX10_best_28 : decode cX10_best 28 = .ok (.getfield 160, 3) := by decide +kernel
theorem dX10_best_31 : decode cX10_best 31 = .ok (.if_icmp .lt 6, 3) := by decide +kernel
theorem dX10_best_34 : decode cX10_best 34 = .ok (.bipush (-4), 2) := by decide +kernel
theorem dX10_best_36 : decode cX10_best 36 = .ok (.ireturn, 1) := by decide +kernel
theorem dX10_best_37 : decode cX10_best 37 = .ok (.aload_n 0, 1) := by decide +kernel
theorem dX10_best_38 : decode cX10_best 38 = .ok (.getfield 81, 3) := by decide +kernel
theorem dX10_best_41 : decode cX10_best 41 = .ok (.iload_n 2, 1) := by decide +kernel
theorem dX10_best_42 : decode cX10_best 42 = .ok (.iaload, 1) := by decide +kernel
theorem dX10_best_43 : decode cX10_best 43 = .ok (.ireturn, 1) := by decide +kernel
theorem dX10_ways_0 : decode cX10_ways 0 = .ok (.aload_n 0, 1) := by decide +kernel
theorem dX10_ways_1 : decode cX10_ways 1 = .ok (.iload_n 1, 1) := by decide +kernel
theorem dX10_ways_2 : decode cX10_ways 2 = .ok (.invokevirtual 145, 3) := by decide +kernel
theorem dX10_ways_5 : decode cX10_ways 5 = .ok (.ifCond .ne 5, 3) := by decide +kernel
theorem dX10_ways_8 : decode cX10_ways 8 = .ok (.iconst (-1), 1) := by decide +kernel
theorem dX10_ways_9 : decode cX10_ways 9 = .ok (.ireturn, 1) := by decide +kernel
theorem dX10_ways_10 : decode cX10_ways 10 = .ok (.aload_n 0, 1) := by decide +kernel
theorem dX10_ways_11 : decode cX10_ways 11 = .ok (.invokevirtual 198, 3) := by decide +kernel
theorem dX10_ways_14 : decode cX10_ways 14 = .ok (.aload_n 0, 1) := by decide +kernel
theorem dX10_ways_15 : decode cX10_ways 15 = .ok (.iload_n 1, 1) := by decide +kernel
theorem dX10_ways_16 : decode cX10_ways 16 = .ok (.invokevirtual 201, 3) := by decide +kernel
theorem dX10_ways_19 : decode cX10_ways 19 = .ok (.ireturn, 1) := by decide +kernel
theorem dX10_passes_0 : decode cX10_passes 0 = .ok (.iload_n 1, 1) := by decide +kernel
theorem dX10_passes_1 : decode cX10_passes 1 = .ok (.ifCond .eq 10, 3) := by decide +kernel
theorem dX10_passes_4 : decode cX10_passes 4 = .ok (.iload_n 1, 1) := by decide +kernel
theorem dX10_passes_5 : decode cX10_passes 5 = .ok (.iconst 1, 1) := by decide +kernel
theorem dX10_passes_6 : decode cX10_passes 6 = .ok (.if_icmp .eq 5, 3) := by decide +kernel
theorem dX10_passes_9 : decode cX10_passes 9 = .ok (.iconst (-1), 1) := by decide +kernel
theorem dX10_passes_10 : decode cX10_passes 10 = .ok (.ireturn, 1) := by decide +kernel
theorem dX10_passes_11 : decode cX10_passes 11 = .ok (.aload_n 0, 1) := by decide +kernel
theorem dX10_passes_12 : decode cX10_passes 12 = .ok (.invokevirtual 198, 3) := by decide +kernel
theorem dX10_passes_15 : decode cX10_passes 15 = .ok (.iconst 0, 1) := by decide +kernel
theorem dX10_passes_16 : decode cX10_passes 16 = .ok (.istore_n 2, 1) := by decide +kernel
theorem dX10_passes_17 : decode cX10_passes 17 = .ok (.iconst 0, 1) := by decide +kernel
theorem dX10_passes_18 : decode cX10_passes 18 = .ok (.istore_n 3, 1) := by decide +kernel
theorem dX10_passes_19 : decode cX10_passes 19 = .ok (.iload_n 3, 1) := by decide +kernel
theorem dX10_passes_20 : decode cX10_passes 20 = .ok (.aload_n 0, 1) := by decide +kernel
theorem dX10_passes_21 : decode cX10_passes 21 = .ok (.getfield 99, 3) := by decide +kernel
theorem dX10_passes_24 : decode cX10_passes 24 = .ok (.if_icmp .ge 47, 3) := by decide +kernel
theorem dX10_passes_27 : decode cX10_passes 27 = .ok (.iload_n 1, 1) := by decide +kernel
theorem dX10_passes_28 : decode cX10_passes 28 = .ok (.ifCond .ne 11, 3) := by decide +kernel
theorem dX10_passes_31 : decode cX10_passes 31 = .ok (.aload_n 0, 1) := by decide +kernel
theorem dX10_passes_32 : decode cX10_passes 32 = .ok (.iload_n 3, 1) := by decide +kernel
theorem dX10_passes_33 : decode cX10_passes 33 = .ok (.invokevirtual 213, 3) := by decide +kernel
theorem dX10_passes_36 : decode cX10_passes 36 = .ok (.goto 16, 3) := by decide +kernel
theorem dX10_passes_39 : decode cX10_passes 39 = .ok (.aload_n 0, 1) := by decide +kernel
theorem dX10_passes_40 : decode cX10_passes 40 = .ok (.iload_n 3, 1) := by decide +kernel
theorem dX10_passes_41 : decode cX10_passes 41 = .ok (.invokevirtual 201, 3) := by decide +kernel
theorem dX10_passes_44 : decode cX10_passes 44 = .ok (.ifCond .le 7, 3) := by decide +kernel
theorem dX10_passes_47 : decode cX10_passes 47 = .ok (.iconst 1, 1) := by decide +kernel
theorem dX10_passes_48 : decode cX10_passes 48 = .ok (.goto 4, 3) := by decide +kernel
theorem dX10_passes_51 : decode cX10_passes 51 = .ok (.iconst 0, 1) := by decide +kernel
theorem dX10_passes_52 : decode cX10_passes 52 = .ok (.istore 4, 2) := by decide +kernel
theorem dX10_passes_54 : decode cX10_passes 54 = .ok (.iload 4, 2) := by decide +kernel
theorem dX10_passes_56 : decode cX10_passes 56 = .ok (.ifCond .eq 9, 3) := by decide +kernel
theorem dX10_passes_59 : decode cX10_passes 59 = .ok (.iload_n 2, 1) := by decide +kernel
theorem dX10_passes_60 : decode cX10_passes 60 = .ok (.iconst 1, 1) := by decide +kernel
theorem dX10_passes_61 : decode cX10_passes 61 = .ok (.iload_n 3, 1) := by decide +kernel
theorem dX10_passes_62 : decode cX10_passes 62 = .ok (.ishl, 1) := by decide +kernel
theorem dX10_passes_63 : decode cX10_passes 63 = .ok (.iadd, 1) := by decide +kernel
theorem dX10_passes_64 : decode cX10_passes 64 = .ok (.istore_n 2, 1) := by decide +kernel
theorem dX10_passes_65 : decode cX10_passes 65 = .ok (.iinc 3 1, 3) := by decide +kernel
theorem dX10_passes_68 : decode cX10_passes 68 = .ok (.goto (-49), 3) := by decide +kernel
theorem dX10_passes_71 : decode cX10_passes 71 = .ok (.iload_n 2, 1) := by decide +kernel
theorem dX10_passes_72 : decode cX10_passes 72 = .ok (.ireturn, 1) := by decide +kernel
theorem dX10_asked_0 : decode cX10_asked 0 = .ok (.iload_n 1, 1) := by decide +kernel
theorem dX10_asked_1 : decode cX10_asked 1 = .ok (.ifCond .lt 8, 3) := by decide +kernel
theorem dX10_asked_4 : decode cX10_asked 4 = .ok (.iload_n 1, 1) := by decide +kernel
theorem dX10_asked_5 : decode cX10_asked 5 = .ok (.iconst 5, 1) := by decide +kernel
theorem dX10_asked_6 : decode cX10_asked 6 = .ok (.if_icmp .le 5, 3) := by decide +kernel
theorem dX10_asked_9 : decode cX10_asked 9 = .ok (.iconst (-1), 1) := by decide +kernel
theorem dX10_asked_10 : decode cX10_asked 10 = .ok (.ireturn, 1) := by decide +kernel
theorem dX10_asked_11 : decode cX10_asked 11 = .ok (.iload_n 1, 1) := by decide +kernel
theorem dX10_asked_12 : decode cX10_asked 12 = .ok (.aload_n 0, 1) := by decide +kernel
theorem dX10_asked_13 : decode cX10_asked 13 = .ok (.getfield 210, 3) := by decide +kernel
theorem dX10_asked_16 : decode cX10_asked 16 = .ok (.if_icmp .ge 17, 3) := by decide +kernel
theorem dX10_asked_19 : decode cX10_asked 19 = .ok (.aload_n 0, 1) := by decide +kernel
theorem dX10_asked_20 : decode cX10_asked 20 = .ok (.getfield 59, 3) := by decide +kernel
theorem dX10_asked_23 : decode cX10_asked 23 = .ok (.iload_n 1, 1) := by decide +kernel
theorem dX10_asked_24 : decode cX10_asked 24 = .ok (.laload, 1) := by decide +kernel
theorem dX10_asked_25 : decode cX10_asked 25 = .ok (.ldc2_w 219, 3) := by decide +kernel
theorem dX10_asked_28 : decode cX10_asked 28 = .ok (.lrem, 1) := by decide +kernel
theorem dX10_asked_29 : decode cX10_asked 29 = .ok (.l2i, 1) := by decide +kernel
theorem dX10_asked_30 : decode cX10_asked 30 = .ok (.goto 5, 3) := by decide +kernel
theorem dX10_asked_33 : decode cX10_asked 33 = .ok (.bipush (-4), 2) := by decide +kernel
theorem dX10_asked_35 : decode cX10_asked 35 = .ok (.ireturn, 1) := by decide +kernel
theorem dX10_isFirst_0 : decode cX10_isFirst 0 = .ok (.aload_n 0, 1) := by decide +kernel
theorem dX10_isFirst_1 : decode cX10_isFirst 1 = .ok (.iload_n 1, 1) := by decide +kernel
theorem dX10_isFirst_2 : decode cX10_isFirst 2 = .ok (.invokevirtual 201, 3) := by decide +kernel
theorem dX10_isFirst_5 : decode cX10_isFirst 5 = .ok (.ifCond .ne 5, 3) := by decide +kernel
theorem dX10_isFirst_8 : decode cX10_isFirst 8 = .ok (.iconst 0, 1) := by decide +kernel
theorem dX10_isFirst_9 : decode cX10_isFirst 9 = .ok (.ireturn, 1) := by decide +kernel
theorem dX10_isFirst_10 : decode cX10_isFirst 10 = .ok (.iconst 0, 1) := by decide +kernel
theorem dX10_isFirst_11 : decode cX10_isFirst 11 = .ok (.istore_n 2, 1) := by decide +kernel
theorem dX10_isFirst_12 : decode cX10_isFirst 12 = .ok (.iload_n 2, 1) := by decide +kernel
theorem dX10_isFirst_13 : decode cX10_isFirst 13 = .ok (.aload_n 0, 1) := by decide +kernel
theorem dX10_isFirst_14 : decode cX10_isFirst 14 = .ok (.getfield 99, 3) := by decide +kernel
theorem dX10_isFirst_17 : decode cX10_isFirst 17 = .ok (.if_icmp .ge 25, 3) := by decide +kernel
theorem dX10_isFirst_20 : decode cX10_isFirst 20 = .ok (.aload_n 0, 1) := by decide +kernel
theorem dX10_isFirst_21 : decode cX10_isFirst 21 = .ok (.iload_n 2, 1) := by decide +kernel
theorem dX10_isFirst_22 : decode cX10_isFirst 22 = .ok (.invokevirtual 201, 3) := by decide +kernel
theorem dX10_isFirst_25 : decode cX10_isFirst 25 = .ok (.pop, 1) := by decide +kernel
theorem dX10_isFirst_26 : decode cX10_isFirst 26 = .ok (.aload_n 0, 1) := by decide +kernel
theorem dX10_isFirst_27 : decode cX10_isFirst 27 = .ok (.getfield 84, 3) := by decide +kernel
theorem dX10_isFirst_30 : decode cX10_isFirst 30 = .ok (.iload_n 2, 1) := by decide +kernel
theorem dX10_isFirst_31 : decode cX10_isFirst 31 = .ok (.aload_n 0, 1) := by decide +kernel
theorem dX10_isFirst_32 : decode cX10_isFirst 32 = .ok (.getfield 167, 3) := by decide +kernel
theorem dX10_isFirst_35 : decode cX10_isFirst 35 = .ok (.iastore, 1) := by decide +kernel
theorem dX10_isFirst_36 : decode cX10_isFirst 36 = .ok (.iinc 2 1, 3) := by decide +kernel
theorem dX10_isFirst_39 : decode cX10_isFirst 39 = .ok (.goto (-27), 3) := by decide +kernel
theorem dX10_isFirst_42 : decode cX10_isFirst 42 = .ok (.aload_n 0, 1) := by decide +kernel
theorem dX10_isFirst_43 : decode cX10_isFirst 43 = .ok (.iload_n 1, 1) := by decide +kernel
theorem dX10_isFirst_44 : decode cX10_isFirst 44 = .ok (.invokevirtual 216, 3) := by decide +kernel
theorem dX10_isFirst_47 : decode cX10_isFirst 47 = .ok (.ifCond .ne 7, 3) := by decide +kernel
theorem dX10_isFirst_50 : decode cX10_isFirst 50 = .ok (.iconst 1, 1) := by decide +kernel
theorem dX10_isFirst_51 : decode cX10_isFirst 51 = .ok (.goto 4, 3) := by decide +kernel
theorem dX10_isFirst_54 : decode cX10_isFirst 54 = .ok (.iconst 0, 1) := by decide +kernel
theorem dX10_isFirst_55 : decode cX10_isFirst 55 = .ok (.ireturn, 1) := by decide +kernel
theorem dX10_brief_0 : decode cX10_brief 0 = .ok (.aload_n 0, 1) := by decide +kernel
theorem dX10_brief_1 : decode cX10_brief 1 = .ok (.iload_n 1, 1) := by decide +kernel
theorem dX10_brief_2 : decode cX10_brief 2 = .ok (.invokevirtual 145, 3) := by decide +kernel
theorem dX10_brief_5 : decode cX10_brief 5 = .ok (.ifCond .ne 5, 3) := by decide +kernel
theorem dX10_brief_8 : decode cX10_brief 8 = .ok (.iconst (-1), 1) := by decide +kernel
theorem dX10_brief_9 : decode cX10_brief 9 = .ok (.ireturn, 1) := by decide +kernel
theorem dX10_brief_10 : decode cX10_brief 10 = .ok (.iconst 1, 1) := by decide +kernel
theorem dX10_brief_11 : decode cX10_brief 11 = .ok (.istore_n 2, 1) := by decide +kernel
theorem dX10_brief_12 : decode cX10_brief 12 = .ok (.iload_n 2, 1) := by decide +kernel
theorem dX10_brief_13 : decode cX10_brief 13 = .ok (.iconst 2, 1) := by decide +kernel
theorem dX10_brief_14 : decode cX10_brief 14 = .ok (.if_icmp .gt 103, 3) := by decide +kernel
theorem dX10_brief_17 : decode cX10_brief 17 = .ok (.aload_n 0, 1) := by decide +kernel
theorem dX10_brief_18 : decode cX10_brief 18 = .ok (.iload_n 2, 1) := by decide +kernel
theorem dX10_brief_19 : decode cX10_brief 19 = .ok (.putfield 160, 3) := by decide +kernel
theorem dX10_brief_22 : decode cX10_brief 22 = .ok (.iconst 1, 1) := by decide +kernel
theorem dX10_brief_23 : decode cX10_brief 23 = .ok (.istore_n 3, 1) := by decide +kernel
theorem dX10_brief_24 : decode cX10_brief 24 = .ok (.iload_n 3, 1) := by decide +kernel
theorem dX10_brief_25 : decode cX10_brief 25 = .ok (.bipush 26, 2) := by decide +kernel
theorem dX10_brief_27 : decode cX10_brief 27 = .ok (.if_icmp .gt 84, 3) := by decide +kernel
theorem dX10_brief_30 : decode cX10_brief 30 = .ok (.aload_n 0, 1) := by decide +kernel
theorem dX10_brief_31 : decode cX10_brief 31 = .ok (.getfield 75, 3) := by decide +kernel
theorem dX10_brief_34 : decode cX10_brief 34 = .ok (.iconst 0, 1) := by decide +kernel
theorem dX10_brief_35 : decode cX10_brief 35 = .ok (.bipush 97, 2) := by decide +kernel
theorem dX10_brief_37 : decode cX10_brief 37 = .ok (.iload_n 3, 1) := by decide +kernel
theorem dX10_brief_38 : decode cX10_brief 38 = .ok (.iadd, 1) := by decide +kernel
theorem dX10_brief_39 : decode cX10_brief 39 = .ok (.iconst 1, 1) := by decide +kernel
theorem dX10_brief_40 : decode cX10_brief 40 = .ok (.isub, 1) := by decide +kernel
theorem dX10_brief_41 : decode cX10_brief 41 = .ok (.iastore, 1) := by decide +kernel
theorem dX10_brief_42 : decode cX10_brief 42 = .ok (.iconst 1, 1) := by decide +kernel
theorem dX10_brief_43 : decode cX10_brief 43 = .ok (.istore 4, 2) := by decide +kernel
theorem dX10_brief_45 : decode cX10_brief 45 = .ok (.iload 4, 2) := by decide +kernel
theorem dX10_brief_47 : decode cX10_brief 47 = .ok (.iload_n 2, 1) := by decide +kernel
theorem dX10_brief_48 : decode cX10_brief 48 = .ok (.iconst 1, 1) := by decide +kernel
theorem dX10_brief_49 : decode cX10_brief 49 = .ok (.if_icmp .ne 7, 3) := by decide +kernel
theorem dX10_brief_52 : decode cX10_brief 52 = .ok (.iconst 1, 1) := by decide +kernel
theorem dX10_brief_53 : decode cX10_brief 53 = .ok (.goto 5, 3) := by decide +kernel
theorem dX10_brief_56 : decode cX10_brief 56 = .ok (.bipush 26, 2) := by decide +kernel
theorem dX10_brief_58 : decode cX10_brief 58 = .ok (.if_icmp .gt 47, 3) := by decide +kernel
theorem dX10_brief_61 : decode cX10_brief 61 = .ok (.aload_n 0, 1) := by decide +kernel
theorem dX10_brief_62 : decode cX10_brief 62 = .ok (.getfield 75, 3) := by decide +kernel
theorem dX10_brief_65 : decode cX10_brief 65 = .ok (.iconst 1, 1) := by decide +kernel
theorem dX10_brief_66 : decode cX10_brief 66 = .ok (.bipush 97, 2) := by decide +kernel
theorem dX10_brief_68 : decode cX10_brief 68 = .ok (.iload 4, 2) := by decide +kernel
theorem dX10_brief_70 : decode cX10_brief 70 = .ok (.iadd, 1) := by decide +kernel
theorem dX10_brief_71 : decode cX10_brief 71 = .ok (.iconst 1, 1) := by decide +kernel
theorem dX10_brief_72 : decode cX10_brief 72 = .ok (.isub, 1) := by decide +kernel
theorem dX10_brief_73 : decode cX10_brief 73 = .ok (.iastore, 1) := by decide +kernel
theorem dX10_brief_74 : decode cX10_brief 74 = .ok (.aload_n 0, 1) := by decide +kernel
theorem dX10_brief_75 : decode cX10_brief 75 = .ok (.iload_n 1, 1) := by decide +kernel
theorem dX10_brief_76 : decode cX10_brief 76 = .ok (.invokevirtual 221, 3) := by decide +kernel
theorem dX10_brief_79 : decode cX10_brief 79 = .ok (.ifCond .eq 20, 3) := by decide +kernel
theorem dX10_brief_82 : decode cX10_brief 82 = .ok (.bipush 27, 2) := by decide +kernel
theorem dX10_brief_84 : decode cX10_brief 84 = .ok (.iload_n 3, 1) := by decide +kernel
theorem dX10_brief_85 : decode cX10_brief 85 = .ok (.imul, 1) := by decide +kernel
theorem dX10_brief_86 : decode cX10_brief 86 = .ok (.iload_n 2, 1) := by decide +kernel
theorem dX10_brief_87 : decode cX10_brief 87 = .ok (.iconst 1, 1) := by decide +kernel
theorem dX10_brief_88 : decode cX10_brief 88 = .ok (.if_icmp .ne 7, 3) := by decide +kernel
theorem dX10_brief_91 : decode cX10_brief 91 = .ok (.iconst 0, 1) := by decide +kernel
theorem dX10_brief_92 : decode cX10_brief 92 = .ok (.goto 5, 3) := by decide +kernel
theorem dX10_brief_95 : decode cX10_brief 95 = .ok (.iload 4, 2) := by decide +kernel
theorem dX10_brief_97 : decode cX10_brief 97 = .ok (.iadd, 1) := by decide +kernel
theorem dX10_brief_98 : decode cX10_brief 98 = .ok (.ireturn, 1) := by decide +kernel
theorem dX10_brief_99 : decode cX10_brief 99 = .ok (.iinc 4 1, 3) := by decide +kernel
theorem dX10_brief_102 : decode cX10_brief 102 = .ok (.goto (-57), 3) := by decide +kernel
theorem dX10_brief_105 : decode cX10_brief 105 = .ok (.iinc 3 1, 3) := by decide +kernel
theorem dX10_brief_108 : decode cX10_brief 108 = .ok (.goto (-84), 3) := by decide +kernel
theorem dX10_brief_111 : decode cX10_brief 111 = .ok (.iinc 2 1, 3) := by decide +kernel
theorem dX10_brief_114 : decode cX10_brief 114 = .ok (.goto (-102), 3) := by decide +kernel
theorem dX10_brief_117 : decode cX10_brief 117 = .ok (.bipush (-4), 2) := by decide +kernel
theorem dX10_brief_119 : decode cX10_brief 119 = .ok (.ireturn, 1) := by decide +kernel
theorem dX10_pair_0 : decode cX10_pair 0 = .ok (.aload_n 0, 1) := by decide +kernel
theorem dX10_pair_1 : decode cX10_pair 1 = .ok (.iload_n 1, 1) := by decide +kernel
theorem dX10_pair_2 : decode cX10_pair 2 = .ok (.invokevirtual 145, 3) := by decide +kernel
theorem dX10_pair_5 : decode cX10_pair 5 = .ok (.ifCond .eq 11, 3) := by decide +kernel
theorem dX10_pair_8 : decode cX10_pair 8 = .ok (.aload_n 0, 1) := by decide +kernel
theorem dX10_pair_9 : decode cX10_pair 9 = .ok (.iload_n 2, 1) := by decide +kernel
theorem dX10_pair_10 : decode cX10_pair 10 = .ok (.invokevirtual 145, 3) := by decide +kernel
theorem dX10_pair_13 : decode cX10_pair 13 = .ok (.ifCond .ne 5, 3) := by decide +kernel
theorem dX10_pair_16 : decode cX10_pair 16 = .ok (.iconst (-1), 1) := by decide +kernel
theorem dX10_pair_17 : decode cX10_pair 17 = .ok (.ireturn, 1) := by decide +kernel
theorem dX10_pair_18 : decode cX10_pair 18 = .ok (.iconst 0, 1) := by decide +kernel
theorem dX10_pair_19 : decode cX10_pair 19 = .ok (.istore_n 3, 1) := by decide +kernel
theorem dX10_pair_20 : decode cX10_pair 20 = .ok (.bipush 97, 2) := by decide +kernel
theorem dX10_pair_22 : decode cX10_pair 22 = .ok (.istore 4, 2) := by decide +kernel
theorem dX10_pair_24 : decode cX10_pair 24 = .ok (.iload 4, 2) := by decide +kernel
theorem dX10_pair_26 : decode cX10_pair 26 = .ok (.bipush 122, 2) := by decide +kernel
theorem dX10_pair_28 : decode cX10_pair 28 = .ok (.if_icmp .gt 32, 3) := by decide +kernel
theorem dX10_pair_31 : decode cX10_pair 31 = .ok (.aload_n 0, 1) := by decide +kernel
theorem dX10_pair_32 : decode cX10_pair 32 = .ok (.iload_n 1, 1) := by decide +kernel
theorem dX10_pair_33 : decode cX10_pair 33 = .ok (.iload 4, 2) := by decide +kernel
theorem dX10_pair_35 : decode cX10_pair 35 = .ok (.invokevirtual 179, 3) := by decide +kernel
theorem dX10_pair_38 : decode cX10_pair 38 = .ok (.ifCond .eq 16, 3) := by decide +kernel
theorem dX10_pair_41 : decode cX10_pair 41 = .ok (.aload_n 0, 1) := by decide +kernel
theorem dX10_pair_42 : decode cX10_pair 42 = .ok (.iload_n 2, 1) := by decide +kernel
theorem dX10_pair_43 : decode cX10_pair 43 = .ok (.iload 4, 2) := by decide +kernel
theorem dX10_pair_45 : decode cX10_pair 45 = .ok (.invokevirtual 179, 3) := by decide +kernel
theorem dX10_pair_48 : decode cX10_pair 48 = .ok (.ifCond .eq 6, 3) := by decide +kernel
theorem dX10_pair_51 : decode cX10_pair 51 = .ok (.iinc 3 1, 3) := by decide +kernel
theorem dX10_pair_54 : decode cX10_pair 54 = .ok (.iinc 4 1, 3) := by decide +kernel
theorem dX10_pair_57 : decode cX10_pair 57 = .ok (.goto (-33), 3) := by decide +kernel
theorem dX10_pair_60 : decode cX10_pair 60 = .ok (.iload_n 3, 1) := by decide +kernel
theorem dX10_pair_61 : decode cX10_pair 61 = .ok (.ireturn, 1) := by decide +kernel
theorem dX10_keep_0 : decode cX10_keep 0 = .ok (.aload_n 0, 1) := by decide +kernel
theorem dX10_keep_1 : decode cX10_keep 1 = .ok (.getfield 142, 3) := by decide +kernel
theorem dX10_keep_4 : decode cX10_keep 4 = .ok (.iconst 2, 1) := by decide +kernel
theorem dX10_keep_5 : decode cX10_keep 5 = .ok (.if_icmp .ne 6, 3) := by decide +kernel
theorem dX10_keep_8 : decode cX10_keep 8 = .ok (.bipush (-3), 2) := by decide +kernel
theorem dX10_keep_10 : decode cX10_keep 10 = .ok (.ireturn, 1) := by decide +kernel
theorem dX10_keep_11 : decode cX10_keep 11 = .ok (.aload_n 0, 1) := by decide +kernel
theorem dX10_keep_12 : decode cX10_keep 12 = .ok (.getfield 49, 3) := by decide +kernel
theorem dX10_keep_15 : decode cX10_keep 15 = .ok (.aload_n 0, 1) := by decide +kernel
theorem dX10_keep_16 : decode cX10_keep 16 = .ok (.getfield 142, 3) := by decide +kernel
theorem dX10_keep_19 : decode cX10_keep 19 = .ok (.aload_n 0, 1) := by decide +kernel
theorem dX10_keep_20 : decode cX10_keep 20 = .ok (.getfield 139, 3) := by decide +kernel
theorem dX10_keep_23 : decode cX10_keep 23 = .ok (.iastore, 1) := by decide +kernel
theorem dX10_keep_24 : decode cX10_keep 24 = .ok (.iconst 0, 1) := by decide +kernel
theorem dX10_keep_25 : decode cX10_keep 25 = .ok (.istore_n 1, 1) := by decide +kernel
theorem dX10_keep_26 : decode cX10_keep 26 = .ok (.iload_n 1, 1) := by decide +kernel
theorem dX10_keep_27 : decode cX10_keep 27 = .ok (.aload_n 0, 1) := by decide +kernel
theorem dX10_keep_28 : decode cX10_keep 28 = .ok (.getfield 139, 3) := by decide +kernel
theorem dX10_keep_31 : decode cX10_keep 31 = .ok (.if_icmp .ge 29, 3) := by decide +kernel
theorem dX10_keep_34 : decode cX10_keep 34 = .ok (.aload_n 0, 1) := by decide +kernel
theorem dX10_keep_35 : decode cX10_keep 35 = .ok (.getfield 46, 3) := by decide +kernel
theorem dX10_keep_38 : decode cX10_keep 38 = .ok (.bipush 6, 2) := by decide +kernel
theorem dX10_keep_40 : decode cX10_keep 40 = .ok (.aload_n 0, 1) := by decide +kernel
theorem dX10_keep_41 : decode cX10_keep 41 = .ok (.getfield 142, 3) := by decide +kernel
theorem dX10_keep_44 : decode cX10_keep 44 = .ok (.imul, 1) := by decide +kernel
theorem dX10_keep_45 : decode cX10_keep 45 = .ok (.iload_n 1, 1) := by decide +kernel
theorem dX10_keep_46 : decode cX10_keep 46 = .ok (.iadd, 1) := by decide +kernel
theorem dX10_keep_47 : decode cX10_keep 47 = .ok (.aload_n 0, 1) := by decide +kernel
theorem dX10_keep_48 : decode cX10_keep 48 = .ok (.getfield 43, 3) := by decide +kernel
theorem dX10_keep_51 : decode cX10_keep 51 = .ok (.iload_n 1, 1) := by decide +kernel
theorem dX10_keep_52 : decode cX10_keep 52 = .ok (.iaload, 1) := by decide +kernel
theorem dX10_keep_53 : decode cX10_keep 53 = .ok (.iastore, 1) := by decide +kernel
theorem dX10_keep_54 : decode cX10_keep 54 = .ok (.iinc 1 1, 3) := by decide +kernel
theorem dX10_keep_57 : decode cX10_keep 57 = .ok (.goto (-31), 3) := by decide +kernel
theorem dX10_keep_60 : decode cX10_keep 60 = .ok (.aload_n 0, 1) := by decide +kernel
theorem dX10_keep_61 : decode cX10_keep 61 = .ok (.dup, 1) := by decide +kernel
theorem dX10_keep_62 : decode cX10_keep 62 = .ok (.getfield 142, 3) := by decide +kernel
theorem dX10_keep_65 : decode cX10_keep 65 = .ok (.iconst 1, 1) := by decide +kernel
theorem dX10_keep_66 : decode cX10_keep 66 = .ok (.iadd, 1) := by decide +kernel
theorem dX10_keep_67 : decode cX10_keep 67 = .ok (.putfield 142, 3) := by decide +kernel
theorem dX10_keep_70 : decode cX10_keep 70 = .ok (.aload_n 0, 1) := by decide +kernel
theorem dX10_keep_71 : decode cX10_keep 71 = .ok (.getfield 142, 3) := by decide +kernel
theorem dX10_keep_74 : decode cX10_keep 74 = .ok (.ireturn, 1) := by decide +kernel
theorem dX10_back_0 : decode cX10_back 0 = .ok (.aload_n 0, 1) := by decide +kernel
theorem dX10_back_1 : decode cX10_back 1 = .ok (.getfield 142, 3) := by decide +kernel
theorem dX10_back_4 : decode cX10_back 4 = .ok (.ifCond .ne 6, 3) := by decide +kernel
theorem dX10_back_7 : decode cX10_back 7 = .ok (.bipush (-2), 2) := by decide +kernel
theorem dX10_back_9 : decode cX10_back 9 = .ok (.ireturn, 1) := by decide +kernel
theorem dX10_back_10 : decode cX10_back 10 = .ok (.aload_n 0, 1) := by decide +kernel
theorem dX10_back_11 : decode cX10_back 11 = .ok (.dup, 1) := by decide +kernel
theorem dX10_back_12 : decode cX10_back 12 = .ok (.getfield 142, 3) := by decide +kernel
theorem dX10_back_15 : decode cX10_back 15 = .ok (.iconst 1, 1) := by decide +kernel
theorem dX10_back_16 : decode cX10_back 16 = .ok (.isub, 1) := by decide +kernel
theorem dX10_back_17 : decode cX10_back 17 = .ok (.putfield 142, 3) := by decide +kernel
theorem dX10_back_20 : decode cX10_back 20 = .ok (.aload_n 0, 1) := by decide +kernel
theorem dX10_back_21 : decode cX10_back 21 = .ok (.aload_n 0, 1) := by decide +kernel
theorem dX10_back_22 : decode cX10_back 22 = .ok (.getfield 49, 3) := by decide +kernel
theorem dX10_back_25 : decode cX10_back 25 = .ok (.aload_n 0, 1) := by decide +kernel
theorem dX10_back_26 : decode cX10_back 26 = .ok (.getfield 142, 3) := by decide +kernel
theorem dX10_back_29 : decode cX10_back 29 = .ok (.iaload, 1) := by decide +kernel
theorem dX10_back_30 : decode cX10_back 30 = .ok (.putfield 139, 3) := by decide +kernel
theorem dX10_back_33 : decode cX10_back 33 = .ok (.iconst 0, 1) := by decide +kernel
theorem dX10_back_34 : decode cX10_back 34 = .ok (.istore_n 1, 1) := by decide +kernel
theorem dX10_back_35 : decode cX10_back 35 = .ok (.iload_n 1, 1) := by decide +kernel
theorem dX10_back_36 : decode cX10_back 36 = .ok (.aload_n 0, 1) := by decide +kernel
theorem dX10_back_37 : decode cX10_back 37 = .ok (.getfield 139, 3) := by decide +kernel
theorem dX10_back_40 : decode cX10_back 40 = .ok (.if_icmp .ge 29, 3) := by decide +kernel
theorem dX10_back_43 : decode cX10_back 43 = .ok (.aload_n 0, 1) := by decide +kernel
theorem dX10_back_44 : decode cX10_back 44 = .ok (.getfield 43, 3) := by decide +kernel
theorem dX10_back_47 : decode cX10_back 47 = .ok (.iload_n 1, 1) := by decide +kernel
theorem dX10_back_48 : decode cX10_back 48 = .ok (.aload_n 0, 1) := by decide +kernel
theorem dX10_back_49 : decode cX10_back 49 = .ok (.getfield 46, 3) := by decide +kernel
theorem dX10_back_52 : decode cX10_back 52 = .ok (.bipush 6, 2) := by decide +kernel
theorem dX10_back_54 : decode cX10_back 54 = .ok (.aload_n 0, 1) := by decide +kernel
theorem dX10_back_55 : decode cX10_back 55 = .ok (.getfield 142, 3) := by decide +kernel
theorem dX10_back_58 : decode cX10_back 58 = .ok (.imul, 1) := by decide +kernel
theorem dX10_back_59 : decode cX10_back 59 = .ok (.iload_n 1, 1) := by decide +kernel
theorem dX10_back_60 : decode cX10_back 60 = .ok (.iadd, 1) := by decide +kernel
theorem dX10_back_61 : decode cX10_back 61 = .ok (.iaload, 1) := by decide +kernel
theorem dX10_back_62 : decode cX10_back 62 = .ok (.iastore, 1) := by decide +kernel
theorem dX10_back_63 : decode cX10_back 63 = .ok (.iinc 1 1, 3) := by decide +kernel
theorem dX10_back_66 : decode cX10_back 66 = .ok (.goto (-31), 3) := by decide +kernel
theorem dX10_back_69 : decode cX10_back 69 = .ok (.aload_n 0, 1) := by decide +kernel
theorem dX10_back_70 : decode cX10_back 70 = .ok (.getfield 142, 3) := by decide +kernel
theorem dX10_back_73 : decode cX10_back 73 = .ok (.ireturn, 1) := by decide +kernel
theorem dX10_count_0 : decode cX10_count 0 = .ok (.iload_n 1, 1) := by decide +kernel
theorem dX10_count_1 : decode cX10_count 1 = .ok (.tableswitch 131 0 12 #[67, 72, 72, 72, 81, 86, 91, 96, 101, 106, 111, 116, 121], 67) := by decide +kernel
theorem dX10_count_68 : decode cX10_count 68 = .ok (.aload_n 0, 1) := by decide +kernel
theorem dX10_count_69 : decode cX10_count 69 = .ok (.getfield 99, 3) := by decide +kernel
theorem dX10_count_72 : decode cX10_count 72 = .ok (.ireturn, 1) := by decide +kernel
theorem dX10_count_73 : decode cX10_count 73 = .ok (.aload_n 0, 1) := by decide +kernel
theorem dX10_count_74 : decode cX10_count 74 = .ok (.getfield 28, 3) := by decide +kernel
theorem dX10_count_77 : decode cX10_count 77 = .ok (.iload_n 1, 1) := by decide +kernel
theorem dX10_count_78 : decode cX10_count 78 = .ok (.iconst 1, 1) := by decide +kernel
theorem dX10_count_79 : decode cX10_count 79 = .ok (.isub, 1) := by decide +kernel
theorem dX10_count_80 : decode cX10_count 80 = .ok (.iaload, 1) := by decide +kernel
theorem dX10_count_81 : decode cX10_count 81 = .ok (.ireturn, 1) := by decide +kernel
theorem dX10_count_82 : decode cX10_count 82 = .ok (.aload_n 0, 1) := by decide +kernel
theorem dX10_count_83 : decode cX10_count 83 = .ok (.getfield 102, 3) := by decide +kernel
theorem dX10_count_86 : decode cX10_count 86 = .ok (.ireturn, 1) := by decide +kernel
theorem dX10_count_87 : decode cX10_count 87 = .ok (.aload_n 0, 1) := by decide +kernel
theorem dX10_count_88 : decode cX10_count 88 = .ok (.getfield 154, 3) := by decide +kernel
theorem dX10_count_91 : decode cX10_count 91 = .ok (.ireturn, 1) := by decide +kernel
theorem dX10_count_92 : decode cX10_count 92 = .ok (.aload_n 0, 1) := by decide +kernel
theorem dX10_count_93 : decode cX10_count 93 = .ok (.getfield 52, 3) := by decide +kernel
theorem dX10_count_96 : decode cX10_count 96 = .ok (.ireturn, 1) := by decide +kernel
theorem dX10_count_97 : decode cX10_count 97 = .ok (.aload_n 0, 1) := by decide +kernel
theorem dX10_count_98 : decode cX10_count 98 = .ok (.getfield 192, 3) := by decide +kernel
theorem dX10_count_101 : decode cX10_count 101 = .ok (.ireturn, 1) := by decide +kernel
theorem dX10_count_102 : decode cX10_count 102 = .ok (.aload_n 0, 1) := by decide +kernel
theorem dX10_count_103 : decode cX10_count 103 = .ok (.getfield 195, 3) := by decide +kernel
theorem dX10_count_106 : decode cX10_count 106 = .ok (.ireturn, 1) := by decide +kernel
theorem dX10_count_107 : decode cX10_count 107 = .ok (.aload_n 0, 1) := by decide +kernel
theorem dX10_count_108 : decode cX10_count 108 = .ok (.getfield 56, 3) := by decide +kernel
theorem dX10_count_111 : decode cX10_count 111 = .ok (.ireturn, 1) := by decide +kernel
theorem dX10_count_112 : decode cX10_count 112 = .ok (.aload_n 0, 1) := by decide +kernel
theorem dX10_count_113 : decode cX10_count 113 = .ok (.getfield 142, 3) := by decide +kernel
theorem dX10_count_116 : decode cX10_count 116 = .ok (.ireturn, 1) := by decide +kernel
theorem dX10_count_117 : decode cX10_count 117 = .ok (.aload_n 0, 1) := by decide +kernel
theorem dX10_count_118 : decode cX10_count 118 = .ok (.getfield 112, 3) := by decide +kernel
theorem dX10_count_121 : decode cX10_count 121 = .ok (.ireturn, 1) := by decide +kernel
theorem dX10_count_122 : decode cX10_count 122 = .ok (.aload_n 0, 1) := by decide +kernel
theorem dX10_count_123 : decode cX10_count 123 = .ok (.invokevirtual 182, 3) := by decide +kernel
theorem dX10_count_126 : decode cX10_count 126 = .ok (.ldc2_w 219, 3) := by decide +kernel
theorem dX10_count_129 : decode cX10_count 129 = .ok (.lrem, 1) := by decide +kernel
theorem dX10_count_130 : decode cX10_count 130 = .ok (.l2i, 1) := by decide +kernel
theorem dX10_count_131 : decode cX10_count 131 = .ok (.ireturn, 1) := by decide +kernel
theorem dX10_count_132 : decode cX10_count 132 = .ok (.iconst (-1), 1) := by decide +kernel
theorem dX10_count_133 : decode cX10_count 133 = .ok (.ireturn, 1) := by decide +kernel
theorem dL_law_0 : decode cL_law 0 = .ok (.new 7, 3) := by decide +kernel
theorem dL_law_3 : decode cL_law 3 = .ok (.dup, 1) := by decide +kernel
theorem dL_law_4 : decode cL_law 4 = .ok (.invokespecial 9, 3) := by decide +kernel
theorem dL_law_7 : decode cL_law 7 = .ok (.astore_n 1, 1) := by decide +kernel
theorem dL_law_8 : decode cL_law 8 = .ok (.new 10, 3) := by decide +kernel
theorem dL_law_11 : decode cL_law 11 = .ok (.dup, 1) := by decide +kernel
theorem dL_law_12 : decode cL_law 12 = .ok (.invokespecial 12, 3) := by decide +kernel
theorem dL_law_15 : decode cL_law 15 = .ok (.astore_n 2, 1) := by decide +kernel
theorem dL_law_16 : decode cL_law 16 = .ok (.iconst 0, 1) := by decide +kernel
theorem dL_law_17 : decode cL_law 17 = .ok (.istore_n 3, 1) := by decide +kernel
theorem dL_law_18 : decode cL_law 18 = .ok (.iload_n 3, 1) := by decide +kernel
theorem dL_law_19 : decode cL_law 19 = .ok (.aload_n 0, 1) := by decide +kernel
theorem dL_law_20 : decode cL_law 20 = .ok (.arraylength, 1) := by decide +kernel
theorem dL_law_21 : decode cL_law 21 = .ok (.iconst 4, 1) := by decide +kernel
theorem dL_law_22 : decode cL_law 22 = .ok (.isub, 1) := by decide +kernel
theorem dL_law_23 : decode cL_law 23 = .ok (.if_icmp .gt 733, 3) := by decide +kernel
theorem dL_law_26 : decode cL_law 26 = .ok (.aload_n 0, 1) := by decide +kernel
theorem dL_law_27 : decode cL_law 27 = .ok (.iload_n 3, 1) := by decide +kernel
theorem dL_law_28 : decode cL_law 28 = .ok (.iaload, 1) := by decide +kernel
theorem dL_law_29 : decode cL_law 29 = .ok (.bipush 31, 2) := by decide +kernel
theorem dL_law_31 : decode cL_law 31 = .ok (.iand, 1) := by decide +kernel
theorem dL_law_32 : decode cL_law 32 = .ok (.tableswitch 718 0 25 #[120, 143, 156, 169, 182, 215, 248, 271, 284, 297, 320, 343, 366, 389, 422, 465, 488, 511, 544, 567, 590, 613, 636, 669, 682, 695], 120) := by decide +kernel
theorem dL_law_152 : decode cL_law 152 = .ok (.aload_n 1, 1) := by decide +kernel
theorem dL_law_153 : decode cL_law 153 = .ok (.aload_n 0, 1) := by decide +kernel
theorem dL_law_154 : decode cL_law 154 = .ok (.iload_n 3, 1) := by decide +kernel
theorem dL_law_155 : decode cL_law 155 = .ok (.iconst 1, 1) := by decide +kernel
theorem dL_law_156 : decode cL_law 156 = .ok (.iadd, 1) := by decide +kernel
theorem dL_law_157 : decode cL_law 157 = .ok (.iaload, 1) := by decide +kernel
theorem dL_law_158 : decode cL_law 158 = .ok (.invokevirtual 13, 3) := by decide +kernel
theorem dL_law_161 : decode cL_law 161 = .ok (.aload_n 2, 1) := by decide +kernel
theorem dL_law_162 : decode cL_law 162 = .ok (.aload_n 0, 1) := by decide +kernel
theorem dL_law_163 : decode cL_law 163 = .ok (.iload_n 3, 1) := by decide +kernel
theorem dL_law_164 : decode cL_law 164 = .ok (.iconst 1, 1) := by decide +kernel
theorem dL_law_165 : decode cL_law 165 = .ok (.iadd, 1) := by decide +kernel
theorem dL_law_166 : decode cL_law 166 = .ok (.iaload, 1) := by decide +kernel
theorem dL_law_167 : decode cL_law 167 = .ok (.invokevirtual 17, 3) := by decide +kernel
theorem dL_law_170 : decode cL_law 170 = .ok (.if_icmp .eq 580, 3) := by decide +kernel
theorem dL_law_173 : decode cL_law 173 = .ok (.iconst 0, 1) := by decide +kernel
theorem dL_law_174 : decode cL_law 174 = .ok (.ireturn, 1) := by decide +kernel
theorem dL_law_175 : decode cL_law 175 = .ok (.aload_n 1, 1) := by decide +kernel
theorem dL_law_176 : decode cL_law 176 = .ok (.invokevirtual 18, 3) := by decide +kernel
theorem dL_law_179 : decode cL_law 179 = .ok (.aload_n 2, 1) := by decide +kernel
theorem dL_law_180 : decode cL_law 180 = .ok (.invokevirtual 22, 3) := by decide +kernel
theorem dL_law_183 : decode cL_law 183 = .ok (.if_icmp .eq 567, 3) := by decide +kernel
theorem dL_law_186 : decode cL_law 186 = .ok (.iconst 0, 1) := by decide +kernel
theorem dL_law_187 : decode cL_law 187 = .ok (.ireturn, 1) := by decide +kernel
theorem dL_law_188 : decode cL_law 188 = .ok (.aload_n 1, 1) := by decide +kernel
theorem dL_law_189 : decode cL_law 189 = .ok (.invokevirtual 23, 3) := by decide +kernel
theorem dL_law_192 : decode cL_law 192 = .ok (.aload_n 2, 1) := by decide +kernel
theorem dL_law_193 : decode cL_law 193 = .ok (.invokevirtual 26, 3) := by decide +kernel
theorem dL_law_196 : decode cL_law 196 = .ok (.if_icmp .eq 554, 3) := by decide +kernel
theorem dL_law_199 : decode cL_law 199 = .ok (.iconst 0, 1) := by decide +kernel
theorem dL_law_200 : decode cL_law 200 = .ok (.ireturn, 1) := by decide +kernel
theorem dL_law_201 : decode cL_law 201 = .ok (.aload_n 1, 1) := by decide +kernel
theorem dL_law_202 : decode cL_law 202 = .ok (.invokevirtual 27, 3) := by decide +kernel
theorem dL_law_205 : decode cL_law 205 = .ok (.aload_n 2, 1) := by decide +kernel
theorem dL_law_206 : decode cL_law 206 = .ok (.invokevirtual 30, 3) := by decide +kernel
theorem dL_law_209 : decode cL_law 209 = .ok (.if_icmp .eq 541, 3) := by decide +kernel
theorem dL_law_212 : decode cL_law 212 = .ok (.iconst 0, 1) := by decide +kernel
theorem dL_law_213 : decode cL_law 213 = .ok (.ireturn, 1) := by decide +kernel
theorem dL_law_214 : decode cL_law 214 = .ok (.aload_n 1, 1) := by decide +kernel
theorem dL_law_215 : decode cL_law 215 = .ok (.aload_n 0, 1) := by decide +kernel
theorem dL_law_216 : decode cL_law 216 = .ok (.iload_n 3, 1) := by decide +kernel
theorem dL_law_217 : decode cL_law 217 = .ok (.iconst 1, 1) := by decide +kernel
theorem dL_law_218 : decode cL_law 218 = .ok (.iadd, 1) := by decide +kernel
theorem dL_law_219 : decode cL_law 219 = .ok (.iaload, 1) := by decide +kernel
theorem dL_law_220 : decode cL_law 220 = .ok (.aload_n 0, 1) := by decide +kernel
theorem dL_law_221 : decode cL_law 221 = .ok (.iload_n 3, 1) := by decide +kernel
theorem dL_law_222 : decode cL_law 222 = .ok (.iconst 2, 1) := by decide +kernel
theorem dL_law_223 : decode cL_law 223 = .ok (.iadd, 1) := by decide +kernel
theorem dL_law_224 : decode cL_law 224 = .ok (.iaload, 1) := by decide +kernel
theorem dL_law_225 : decode cL_law 225 = .ok (.invokevirtual 31, 3) := by decide +kernel
theorem dL_law_228 : decode cL_law 228 = .ok (.aload_n 2, 1) := by decide +kernel
theorem dL_law_229 : decode cL_law 229 = .ok (.aload_n 0, 1) := by decide +kernel
theorem dL_law_230 : decode cL_law 230 = .ok (.iload_n 3, 1) := by decide +kernel
theorem dL_law_231 : decode cL_law 231 = .ok (.iconst 1, 1) := by decide +kernel
theorem dL_law_232 : decode cL_law 232 = .ok (.iadd, 1) := by decide +kernel
theorem dL_law_233 : decode cL_law 233 = .ok (.iaload, 1) := by decide +kernel
theorem dL_law_234 : decode cL_law 234 = .ok (.aload_n 0, 1) := by decide +kernel
theorem dL_law_235 : decode cL_law 235 = .ok (.iload_n 3, 1) := by decide +kernel
theorem dL_law_236 : decode cL_law 236 = .ok (.iconst 2, 1) := by decide +kernel
theorem dL_law_237 : decode cL_law 237 = .ok (.iadd, 1) := by decide +kernel
theorem dL_law_238 : decode cL_law 238 = .ok (.iaload, 1) := by decide +kernel
theorem dL_law_239 : decode cL_law 239 = .ok (.invokevirtual 35, 3) := by decide +kernel
theorem dL_law_242 : decode cL_law 242 = .ok (.if_icmp .eq 508, 3) := by decide +kernel
theorem dL_law_245 : decode cL_law 245 = .ok (.iconst 0, 1) := by decide +kernel
theorem dL_law_246 : decode cL_law 246 = .ok (.ireturn, 1) := by decide +kernel
theorem dL_law_247 : decode cL_law 247 = .ok (.aload_n 1, 1) := by decide +kernel
theorem dL_law_248 : decode cL_law 248 = .ok (.aload_n 0, 1) := by decide +kernel
theorem dL_law_249 : decode cL_law 249 = .ok (.iload_n 3, 1) := by decide +kernel
theorem dL_law_250 : decode cL_law 250 = .ok (.iconst 1, 1) := by decide +kernel
theorem dL_law_251 : decode cL_law 251 = .ok (.iadd, 1) := by decide +kernel
theorem dL_law_252 : decode cL_law 252 = .ok (.iaload, 1) := by decide +kernel
theorem dL_law_253 : decode cL_law 253 = .ok (.aload_n 0, 1) := by decide +kernel
theorem dL_law_254 : decode cL_law 254 = .ok (.iload_n 3, 1) := by decide +kernel
theorem dL_law_255 : decode cL_law 255 = .ok (.iconst 2, 1) := by decide +kernel
theorem dL_law_256 : decode cL_law 256 = .ok (.iadd, 1) := by decide +kernel
theorem dL_law_257 : decode cL_law 257 = .ok (.iaload, 1) := by decide +kernel
theorem dL_law_258 : decode cL_law 258 = .ok (.invokevirtual 36, 3) := by decide +kernel
theorem dL_law_261 : decode cL_law 261 = .ok (.aload_n 2, 1) := by decide +kernel
theorem dL_law_262 : decode cL_law 262 = .ok (.aload_n 0, 1) := by decide +kernel
theorem dL_law_263 : decode cL_law 263 = .ok (.iload_n 3, 1) := by decide +kernel
theorem dL_law_264 : decode cL_law 264 = .ok (.iconst 1, 1) := by decide +kernel
theorem dL_law_265 : decode cL_law 265 = .ok (.iadd, 1) := by decide +kernel
theorem dL_law_266 : decode cL_law 266 = .ok (.iaload, 1) := by decide +kernel
theorem dL_law_267 : decode cL_law 267 = .ok (.aload_n 0, 1) := by decide +kernel
theorem dL_law_268 : decode cL_law 268 = .ok (.iload_n 3, 1) := by decide +kernel
theorem dL_law_269 : decode cL_law 269 = .ok (.iconst 2, 1) := by decide +kernel
theorem dL_law_270 : decode cL_law 270 = .ok (.iadd, 1) := by decide +kernel
theorem dL_law_271 : decode cL_law 271 = .ok (.iaload, 1) := by decide +kernel
theorem dL_law_272 : decode cL_law 272 = .ok (.invokevirtual 39, 3) := by decide +kernel
theorem dL_law_275 : decode cL_law 275 = .ok (.if_icmp .eq 475, 3) := by decide +kernel
theorem dL_law_278 : decode cL_law 278 = .ok (.iconst 0, 1) := by decide +kernel
theorem dL_law_279 : decode cL_law 279 = .ok (.ireturn, 1) := by decide +kernel
theorem dL_law_280 : decode cL_law 280 = .ok (.aload_n 1, 1) := by decide +kernel
theorem dL_law_281 : decode cL_law 281 = .ok (.aload_n 0, 1) := by decide +kernel
theorem dL_law_282 : decode cL_law 282 = .ok (.iload_n 3, 1) := by decide +kernel
theorem dL_law_283 : decode cL_law 283 = .ok (.iconst 1, 1) := by decide +kernel
theorem dL_law_284 : decode cL_law 284 = .ok (.iadd, 1) := by decide +kernel
theorem dL_law_285 : decode cL_law 285 = .ok (.iaload, 1) := by decide +kernel
theorem dL_law_286 : decode cL_law 286 = .ok (.invokevirtual 40, 3) := by decide +kernel
theorem dL_law_289 : decode cL_law 289 = .ok (.aload_n 2, 1) := by decide +kernel
theorem dL_law_290 : decode cL_law 290 = .ok (.aload_n 0, 1) := by decide +kernel
theorem dL_law_291 : decode cL_law 291 = .ok (.iload_n 3, 1) := by decide +kernel
theorem dL_law_292 : decode cL_law 292 = .ok (.iconst 1, 1) := by decide +kernel
theorem dL_law_293 : decode cL_law 293 = .ok (.iadd, 1) := by decide +kernel
theorem dL_law_294 : decode cL_law 294 = .ok (.iaload, 1) := by decide +kernel
theorem dL_law_295 : decode cL_law 295 = .ok (.invokevirtual 43, 3) := by decide +kernel
theorem dL_law_298 : decode cL_law 298 = .ok (.if_icmp .eq 452, 3) := by decide +kernel
theorem dL_law_301 : decode cL_law 301 = .ok (.iconst 0, 1) := by decide +kernel
theorem dL_law_302 : decode cL_law 302 = .ok (.ireturn, 1) := by decide +kernel
theorem dL_law_303 : decode cL_law 303 = .ok (.aload_n 1, 1) := by decide +kernel
theorem dL_law_304 : decode cL_law 304 = .ok (.invokevirtual 44, 3) := by decide +kernel
theorem dL_law_307 : decode cL_law 307 = .ok (.aload_n 2, 1) := by decide +kernel
theorem dL_law_308 : decode cL_law 308 = .ok (.invokevirtual 47, 3) := by decide +kernel
theorem dL_law_311 : decode cL_law 311 = .ok (.if_icmp .eq 439, 3) := by decide +kernel
theorem dL_law_314 : decode cL_law 314 = .ok (.iconst 0, 1) := by decide +kernel
theorem dL_law_315 : decode cL_law 315 = .ok (.ireturn, 1) := by decide +kernel
theorem dL_law_316 : decode cL_law 316 = .ok (.aload_n 1, 1) := by decide +kernel
theorem dL_law_317 : decode cL_law 317 = .ok (.invokevirtual 48, 3) := by decide +kernel
theorem dL_law_320 : decode cL_law 320 = .ok (.aload_n 2, 1) := by decide +kernel
theorem dL_law_321 : decode cL_law 321 = .ok (.invokevirtual 51, 3) := by decide +kernel
theorem dL_law_324 : decode cL_law 324 = .ok (.if_icmp .eq 426, 3) := by decide +kernel
theorem dL_law_327 : decode cL_law 327 = .ok (.iconst 0, 1) := by decide +kernel
theorem dL_law_328 : decode cL_law 328 = .ok (.ireturn, 1) := by decide +kernel
theorem dL_law_329 : decode cL_law 329 = .ok (.aload_n 1, 1) := by decide +kernel
theorem dL_law_330 : decode cL_law 330 = .ok (.aload_n 0, 1) := by decide +kernel
theorem dL_law_331 : decode cL_law 331 = .ok (.iload_n 3, 1) := by decide +kernel
theorem dL_law_332 : decode cL_law 332 = .ok (.iconst 1, 1) := by decide +kernel
theorem dL_law_333 : decode cL_law 333 = .ok (.iadd, 1) := by decide +kernel
theorem dL_law_334 : decode cL_law 334 = .ok (.iaload, 1) := by decide +kernel
theorem dL_law_335 : decode cL_law 335 = .ok (.invokevirtual 52, 3) := by decide +kernel
theorem dL_law_338 : decode cL_law 338 = .ok (.aload_n 2, 1) := by decide +kernel
theorem dL_law_339 : decode cL_law 339 = .ok (.aload_n 0, 1) := by decide +kernel
theorem dL_law_340 : decode cL_law 340 = .ok (.iload_n 3, 1) := by decide +kernel
theorem dL_law_341 : decode cL_law 341 = .ok (.iconst 1, 1) := by decide +kernel
theorem dL_law_342 : decode cL_law 342 = .ok (.iadd, 1) := by decide +kernel
theorem dL_law_343 : decode cL_law 343 = .ok (.iaload, 1) := by decide +kernel
theorem dL_law_344 : decode cL_law 344 = .ok (.invokevirtual 55, 3) := by decide +kernel
theorem dL_law_347 : decode cL_law 347 = .ok (.if_icmp .eq 403, 3) := by decide +kernel
theorem dL_law_350 : decode cL_law 350 = .ok (.iconst 0, 1) := by decide +kernel
theorem dL_law_351 : decode cL_law 351 = .ok (.ireturn, 1) := by decide +kernel
theorem dL_law_352 : decode cL_law 352 = .ok (.aload_n 1, 1) := by decide +kernel
theorem dL_law_353 : decode cL_law 353 = .ok (.aload_n 0, 1) := by decide +kernel
theorem dL_law_354 : decode cL_law 354 = .ok (.iload_n 3, 1) := by decide +kernel
theorem dL_law_355 : decode cL_law 355 = .ok (.iconst 1, 1) := by decide +kernel
theorem dL_law_356 : decode cL_law 356 = .ok (.iadd, 1) := by decide +kernel
theorem dL_law_357 : decode cL_law 357 = .ok (.iaload, 1) := by decide +kernel
theorem dL_law_358 : decode cL_law 358 = .ok (.invokevirtual 56, 3) := by decide +kernel
theorem dL_law_361 : decode cL_law 361 = .ok (.aload_n 2, 1) := by decide +kernel
theorem dL_law_362 : decode cL_law 362 = .ok (.aload_n 0, 1) := by decide +kernel
theorem dL_law_363 : decode cL_law 363 = .ok (.iload_n 3, 1) := by decide +kernel
theorem dL_law_364 : decode cL_law 364 = .ok (.iconst 1, 1) := by decide +kernel
theorem dL_law_365 : decode cL_law 365 = .ok (.iadd, 1) := by decide +kernel
theorem dL_law_366 : decode cL_law 366 = .ok (.iaload, 1) := by decide +kernel
theorem dL_law_367 : decode cL_law 367 = .ok (.invokevirtual 59, 3) := by decide +kernel
theorem dL_law_370 : decode cL_law 370 = .ok (.if_icmp .eq 380, 3) := by decide +kernel
theorem dL_law_373 : decode cL_law 373 = .ok (.iconst 0, 1) := by decide +kernel
theorem dL_law_374 : decode cL_law 374 = .ok (.ireturn, 1) := by decide +kernel
theorem dL_law_375 : decode cL_law 375 = .ok (.aload_n 1, 1) := by decide +kernel
theorem dL_law_376 : decode cL_law 376 = .ok (.aload_n 0, 1) := by decide +kernel
theorem dL_law_377 : decode cL_law 377 = .ok (.iload_n 3, 1) := by decide +kernel
theorem dL_law_378 : decode cL_law 378 = .ok (.iconst 1, 1) := by decide +kernel
theorem dL_law_379 : decode cL_law 379 = .ok (.iadd, 1) := by decide +kernel
theorem dL_law_380 : decode cL_law 380 = .ok (.iaload, 1) := by decide +kernel
theorem dL_law_381 : decode cL_law 381 = .ok (.invokevirtual 60, 3) := by decide +kernel
theorem dL_law_384 : decode cL_law 384 = .ok (.aload_n 2, 1) := by decide +kernel
theorem dL_law_385 : decode cL_law 385 = .ok (.aload_n 0, 1) := by decide +kernel
theorem dL_law_386 : decode cL_law 386 = .ok (.iload_n 3, 1) := by decide +kernel
theorem dL_law_387 : decode cL_law 387 = .ok (.iconst 1, 1) := by decide +kernel
theorem dL_law_388 : decode cL_law 388 = .ok (.iadd, 1) := by decide +kernel
theorem dL_law_389 : decode cL_law 389 = .ok (.iaload, 1) := by decide +kernel
theorem dL_law_390 : decode cL_law 390 = .ok (.invokevirtual 63, 3) := by decide +kernel
theorem dL_law_393 : decode cL_law 393 = .ok (.if_icmp .eq 357, 3) := by decide +kernel
theorem dL_law_396 : decode cL_law 396 = .ok (.iconst 0, 1) := by decide +kernel
theorem dL_law_397 : decode cL_law 397 = .ok (.ireturn, 1) := by decide +kernel
theorem dL_law_398 : decode cL_law 398 = .ok (.aload_n 1, 1) := by decide +kernel
theorem dL_law_399 : decode cL_law 399 = .ok (.aload_n 0, 1) := by decide +kernel
theorem dL_law_400 : decode cL_law 400 = .ok (.iload_n 3, 1) := by decide +kernel
theorem dL_law_401 : decode cL_law 401 = .ok (.iconst 1, 1) := by decide +kernel
theorem dL_law_402 : decode cL_law 402 = .ok (.iadd, 1) := by decide +kernel
theorem dL_law_403 : decode cL_law 403 = .ok (.iaload, 1) := by decide +kernel
theorem dL_law_404 : decode cL_law 404 = .ok (.invokevirtual 64, 3) := by decide +kernel
theorem dL_law_407 : decode cL_law 407 = .ok (.aload_n 2, 1) := by decide +kernel
theorem dL_law_408 : decode cL_law 408 = .ok (.aload_n 0, 1) := by decide +kernel
theorem dL_law_409 : decode cL_law 409 = .ok (.iload_n 3, 1) := by decide +kernel
theorem dL_law_410 : decode cL_law 410 = .ok (.iconst 1, 1) := by decide +kernel
theorem dL_law_411 : decode cL_law 411 = .ok (.iadd, 1) := by decide +kernel
theorem dL_law_412 : decode cL_law 412 = .ok (.iaload, 1) := by decide +kernel
theorem dL_law_413 : decode cL_law 413 = .ok (.invokevirtual 67, 3) := by decide +kernel
theorem dL_law_416 : decode cL_law 416 = .ok (.if_icmp .eq 334, 3) := by decide +kernel
theorem dL_law_419 : decode cL_law 419 = .ok (.iconst 0, 1) := by decide +kernel
theorem dL_law_420 : decode cL_law 420 = .ok (.ireturn, 1) := by decide +kernel
theorem dL_law_421 : decode cL_law 421 = .ok (.aload_n 1, 1) := by decide +kernel
theorem dL_law_422 : decode cL_law 422 = .ok (.aload_n 0, 1) := by decide +kernel
theorem dL_law_423 : decode cL_law 423 = .ok (.iload_n 3, 1) := by decide +kernel
theorem dL_law_424 : decode cL_law 424 = .ok (.iconst 1, 1) := by decide +kernel
theorem dL_law_425 : decode cL_law 425 = .ok (.iadd, 1) := by decide +kernel
theorem dL_law_426 : decode cL_law 426 = .ok (.iaload, 1) := by decide +kernel
theorem dL_law_427 : decode cL_law 427 = .ok (.aload_n 0, 1) := by decide +kernel
theorem dL_law_428 : decode cL_law 428 = .ok (.iload_n 3, 1) := by decide +kernel
theorem dL_law_429 : decode cL_law 429 = .ok (.iconst 2, 1) := by decide +kernel
theorem dL_law_430 : decode cL_law 430 = .ok (.iadd, 1) := by decide +kernel
theorem dL_law_431 : decode cL_law 431 = .ok (.iaload, 1) := by decide +kernel
theorem dL_law_432 : decode cL_law 432 = .ok (.invokevirtual 68, 3) := by decide +kernel
theorem dL_law_435 : decode cL_law 435 = .ok (.aload_n 2, 1) := by decide +kernel
theorem dL_law_436 : decode cL_law 436 = .ok (.aload_n 0, 1) := by decide +kernel
theorem dL_law_437 : decode cL_law 437 = .ok (.iload_n 3, 1) := by decide +kernel
theorem dL_law_438 : decode cL_law 438 = .ok (.iconst 1, 1) := by decide +kernel
theorem dL_law_439 : decode cL_law 439 = .ok (.iadd, 1) := by decide +kernel
theorem dL_law_440 : decode cL_law 440 = .ok (.iaload, 1) := by decide +kernel
theorem dL_law_441 : decode cL_law 441 = .ok (.aload_n 0, 1) := by decide +kernel
theorem dL_law_442 : decode cL_law 442 = .ok (.iload_n 3, 1) := by decide +kernel
theorem dL_law_443 : decode cL_law 443 = .ok (.iconst 2, 1) := by decide +kernel
theorem dL_law_444 : decode cL_law 444 = .ok (.iadd, 1) := by decide +kernel
theorem dL_law_445 : decode cL_law 445 = .ok (.iaload, 1) := by decide +kernel
theorem dL_law_446 : decode cL_law 446 = .ok (.invokevirtual 71, 3) := by decide +kernel
theorem dL_law_449 : decode cL_law 449 = .ok (.if_icmp .eq 301, 3) := by decide +kernel
theorem dL_law_452 : decode cL_law 452 = .ok (.iconst 0, 1) := by decide +kernel
theorem dL_law_453 : decode cL_law 453 = .ok (.ireturn, 1) := by decide +kernel
theorem dL_law_454 : decode cL_law 454 = .ok (.aload_n 1, 1) := by decide +kernel
theorem dL_law_455 : decode cL_law 455 = .ok (.aload_n 0, 1) := by decide +kernel
theorem dL_law_456 : decode cL_law 456 = .ok (.iload_n 3, 1) := by decide +kernel
theorem dL_law_457 : decode cL_law 457 = .ok (.iconst 1, 1) := by decide +kernel
theorem dL_law_458 : decode cL_law 458 = .ok (.iadd, 1) := by decide +kernel
theorem dL_law_459 : decode cL_law 459 = .ok (.iaload, 1) := by decide +kernel
theorem dL_law_460 : decode cL_law 460 = .ok (.aload_n 0, 1) := by decide +kernel
theorem dL_law_461 : decode cL_law 461 = .ok (.iload_n 3, 1) := by decide +kernel
theorem dL_law_462 : decode cL_law 462 = .ok (.iconst 2, 1) := by decide +kernel
theorem dL_law_463 : decode cL_law 463 = .ok (.iadd, 1) := by decide +kernel
theorem dL_law_464 : decode cL_law 464 = .ok (.iaload, 1) := by decide +kernel
theorem dL_law_465 : decode cL_law 465 = .ok (.aload_n 0, 1) := by decide +kernel
theorem dL_law_466 : decode cL_law 466 = .ok (.iload_n 3, 1) := by decide +kernel
theorem dL_law_467 : decode cL_law 467 = .ok (.iconst 3, 1) := by decide +kernel
theorem dL_law_468 : decode cL_law 468 = .ok (.iadd, 1) := by decide +kernel
theorem dL_law_469 : decode cL_law 469 = .ok (.iaload, 1) := by decide +kernel
theorem dL_law_470 : decode cL_law 470 = .ok (.invokevirtual 72, 3) := by decide +kernel
theorem dL_law_473 : decode cL_law 473 = .ok (.aload_n 2, 1) := by decide +kernel
theorem dL_law_474 : decode cL_law 474 = .ok (.aload_n 0, 1) := by decide +kernel
theorem dL_law_475 : decode cL_law 475 = .ok (.iload_n 3, 1) := by decide +kernel
theorem dL_law_476 : decode cL_law 476 = .ok (.iconst 1, 1) := by decide +kernel
theorem dL_law_477 : decode cL_law 477 = .ok (.iadd, 1) := by decide +kernel
theorem dL_law_478 : decode cL_law 478 = .ok (.iaload, 1) := by decide +kernel
theorem dL_law_479 : decode cL_law 479 = .ok (.aload_n 0, 1) := by decide +kernel
theorem dL_law_480 : decode cL_law 480 = .ok (.iload_n 3, 1) := by decide +kernel
theorem dL_law_481 : decode cL_law 481 = .ok (.iconst 2, 1) := by decide +kernel
theorem dL_law_482 : decode cL_law 482 = .ok (.iadd, 1) := by decide +kernel
theorem dL_law_483 : decode cL_law 483 = .ok (.iaload, 1) := by decide +kernel
theorem dL_law_484 : decode cL_law 484 = .ok (.aload_n 0, 1) := by decide +kernel
theorem dL_law_485 : decode cL_law 485 = .ok (.iload_n 3, 1) := by decide +kernel
theorem dL_law_486 : decode cL_law 486 = .ok (.iconst 3, 1) := by decide +kernel
theorem dL_law_487 : decode cL_law 487 = .ok (.iadd, 1) := by decide +kernel
theorem dL_law_488 : decode cL_law 488 = .ok (.iaload, 1) := by decide +kernel
theorem dL_law_489 : decode cL_law 489 = .ok (.invokevirtual 76, 3) := by decide +kernel
theorem dL_law_492 : decode cL_law 492 = .ok (.if_icmp .eq 258, 3) := by decide +kernel
theorem dL_law_495 : decode cL_law 495 = .ok (.iconst 0, 1) := by decide +kernel
theorem dL_law_496 : decode cL_law 496 = .ok (.ireturn, 1) := by decide +kernel
theorem dL_law_497 : decode cL_law 497 = .ok (.aload_n 1, 1) := by decide +kernel
theorem dL_law_498 : decode cL_law 498 = .ok (.aload_n 0, 1) := by decide +kernel
theorem dL_law_499 : decode cL_law 499 = .ok (.iload_n 3, 1) := by decide +kernel
theorem dL_law_500 : decode cL_law 500 = .ok (.iconst 1, 1) := by decide +kernel
theorem dL_law_501 : decode cL_law 501 = .ok (.iadd, 1) := by decide +kernel
theorem dL_law_502 : decode cL_law 502 = .ok (.iaload, 1) := by decide +kernel
theorem dL_law_503 : decode cL_law 503 = .ok (.invokevirtual 77, 3) := by decide +kernel
theorem dL_law_506 : decode cL_law 506 = .ok (.aload_n 2, 1) := by decide +kernel
theorem dL_law_507 : decode cL_law 507 = .ok (.aload_n 0, 1) := by decide +kernel
theorem dL_law_508 : decode cL_law 508 = .ok (.iload_n 3, 1) := by decide +kernel
theorem dL_law_509 : decode cL_law 509 = .ok (.iconst 1, 1) := by decide +kernel
theorem dL_law_510 : decode cL_law 510 = .ok (.iadd, 1) := by decide +kernel
theorem dL_law_511 : decode cL_law 511 = .ok (.iaload, 1) := by decide +kernel
theorem dL_law_512 : decode cL_law 512 = .ok (.invokevirtual 80, 3) := by decide +kernel
theorem dL_law_515 : decode cL_law 515 = .ok (.if_icmp .eq 235, 3) := by decide +kernel
theorem dL_law_518 : decode cL_law 518 = .ok (.iconst 0, 1) := by decide +kernel
theorem dL_law_519 : decode cL_law 519 = .ok (.ireturn, 1) := by decide +kernel
theorem dL_law_520 : decode cL_law 520 = .ok (.aload_n 1, 1) := by decide +kernel
theorem dL_law_521 : decode cL_law 521 = .ok (.aload_n 0, 1) := by decide +kernel
theorem dL_law_522 : decode cL_law 522 = .ok (.iload_n 3, 1) := by decide +kernel
theorem dL_law_523 : decode cL_law 523 = .ok (.iconst 1, 1) := by decide +kernel
theorem dL_law_524 : decode cL_law 524 = .ok (.iadd, 1) := by decide +kernel
theorem dL_law_525 : decode cL_law 525 = .ok (.iaload, 1) := by decide +kernel
theorem dL_law_526 : decode cL_law 526 = .ok (.invokevirtual 81, 3) := by decide +kernel
theorem dL_law_529 : decode cL_law 529 = .ok (.aload_n 2, 1) := by decide +kernel
theorem dL_law_530 : decode cL_law 530 = .ok (.aload_n 0, 1) := by decide +kernel
theorem dL_law_531 : decode cL_law 531 = .ok (.iload_n 3, 1) := by decide +kernel
theorem dL_law_532 : decode cL_law 532 = .ok (.iconst 1, 1) := by decide +kernel
theorem dL_law_533 : decode cL_law 533 = .ok (.iadd, 1) := by decide +kernel
theorem dL_law_534 : decode cL_law 534 = .ok (.iaload, 1) := by decide +kernel
theorem dL_law_535 : decode cL_law 535 = .ok (.invokevirtual 84, 3) := by decide +kernel
theorem dL_law_538 : decode cL_law 538 = .ok (.if_icmp .eq 212, 3) := by decide +kernel
theorem dL_law_541 : decode cL_law 541 = .ok (.iconst 0, 1) := by decide +kernel
theorem dL_law_542 : decode cL_law 542 = .ok (.ireturn, 1) := by decide +kernel
theorem dL_law_543 : decode cL_law 543 = .ok (.aload_n 1, 1) := by decide +kernel
theorem dL_law_544 : decode cL_law 544 = .ok (.aload_n 0, 1) := by decide +kernel
theorem dL_law_545 : decode cL_law 545 = .ok (.iload_n 3, 1) := by decide +kernel
theorem dL_law_546 : decode cL_law 546 = .ok (.iconst 1, 1) := by decide +kernel
theorem dL_law_547 : decode cL_law 547 = .ok (.iadd, 1) := by decide +kernel
theorem dL_law_548 : decode cL_law 548 = .ok (.iaload, 1) := by decide +kernel
theorem dL_law_549 : decode cL_law 549 = .ok (.aload_n 0, 1) := by decide +kernel
theorem dL_law_550 : decode cL_law 550 = .ok (.iload_n 3, 1) := by decide +kernel
theorem dL_law_551 : decode cL_law 551 = .ok (.iconst 2, 1) := by decide +kernel
theorem dL_law_552 : decode cL_law 552 = .ok (.iadd, 1) := by decide +kernel
theorem dL_law_553 : decode cL_law 553 = .ok (.iaload, 1) := by decide +kernel
theorem dL_law_554 : decode cL_law 554 = .ok (.invokevirtual 85, 3) := by decide +kernel
theorem dL_law_557 : decode cL_law 557 = .ok (.aload_n 2, 1) := by decide +kernel
theorem dL_law_558 : decode cL_law 558 = .ok (.aload_n 0, 1) := by decide +kernel
theorem dL_law_559 : decode cL_law 559 = .ok (.iload_n 3, 1) := by decide +kernel
theorem dL_law_560 : decode cL_law 560 = .ok (.iconst 1, 1) := by decide +kernel
theorem dL_law_561 : decode cL_law 561 = .ok (.iadd, 1) := by decide +kernel
theorem dL_law_562 : decode cL_law 562 = .ok (.iaload, 1) := by decide +kernel
theorem dL_law_563 : decode cL_law 563 = .ok (.aload_n 0, 1) := by decide +kernel
theorem dL_law_564 : decode cL_law 564 = .ok (.iload_n 3, 1) := by decide +kernel
theorem dL_law_565 : decode cL_law 565 = .ok (.iconst 2, 1) := by decide +kernel
theorem dL_law_566 : decode cL_law 566 = .ok (.iadd, 1) := by decide +kernel
theorem dL_law_567 : decode cL_law 567 = .ok (.iaload, 1) := by decide +kernel
theorem dL_law_568 : decode cL_law 568 = .ok (.invokevirtual 88, 3) := by decide +kernel
theorem dL_law_571 : decode cL_law 571 = .ok (.if_icmp .eq 179, 3) := by decide +kernel
theorem dL_law_574 : decode cL_law 574 = .ok (.iconst 0, 1) := by decide +kernel
theorem dL_law_575 : decode cL_law 575 = .ok (.ireturn, 1) := by decide +kernel
theorem dL_law_576 : decode cL_law 576 = .ok (.aload_n 1, 1) := by decide +kernel
theorem dL_law_577 : decode cL_law 577 = .ok (.aload_n 0, 1) := by decide +kernel
theorem dL_law_578 : decode cL_law 578 = .ok (.iload_n 3, 1) := by decide +kernel
theorem dL_law_579 : decode cL_law 579 = .ok (.iconst 1, 1) := by decide +kernel
theorem dL_law_580 : decode cL_law 580 = .ok (.iadd, 1) := by decide +kernel
theorem dL_law_581 : decode cL_law 581 = .ok (.iaload, 1) := by decide +kernel
theorem dL_law_582 : decode cL_law 582 = .ok (.invokevirtual 89, 3) := by decide +kernel
theorem dL_law_585 : decode cL_law 585 = .ok (.aload_n 2, 1) := by decide +kernel
theorem dL_law_586 : decode cL_law 586 = .ok (.aload_n 0, 1) := by decide +kernel
theorem dL_law_587 : decode cL_law 587 = .ok (.iload_n 3, 1) := by decide +kernel
theorem dL_law_588 : decode cL_law 588 = .ok (.iconst 1, 1) := by decide +kernel
theorem dL_law_589 : decode cL_law 589 = .ok (.iadd, 1) := by decide +kernel
theorem dL_law_590 : decode cL_law 590 = .ok (.iaload, 1) := by decide +kernel
theorem dL_law_591 : decode cL_law 591 = .ok (.invokevirtual 92, 3) := by decide +kernel
theorem dL_law_594 : decode cL_law 594 = .ok (.if_icmp .eq 156, 3) := by decide +kernel
theorem dL_law_597 : decode cL_law 597 = .ok (.iconst 0, 1) := by decide +kernel
theorem dL_law_598 : decode cL_law 598 = .ok (.ireturn, 1) := by decide +kernel
theorem dL_law_599 : decode cL_law 599 = .ok (.aload_n 1, 1) := by decide +kernel
theorem dL_law_600 : decode cL_law 600 = .ok (.aload_n 0, 1) := by decide +kernel
theorem dL_law_601 : decode cL_law 601 = .ok (.iload_n 3, 1) := by decide +kernel
theorem dL_law_602 : decode cL_law 602 = .ok (.iconst 1, 1) := by decide +kernel
theorem dL_law_603 : decode cL_law 603 = .ok (.iadd, 1) := by decide +kernel
theorem dL_law_604 : decode cL_law 604 = .ok (.iaload, 1) := by decide +kernel
theorem dL_law_605 : decode cL_law 605 = .ok (.invokevirtual 93, 3) := by decide +kernel
theorem dL_law_608 : decode cL_law 608 = .ok (.aload_n 2, 1) := by decide +kernel
theorem dL_law_609 : decode cL_law 609 = .ok (.aload_n 0, 1) := by decide +kernel
theorem dL_law_610 : decode cL_law 610 = .ok (.iload_n 3, 1) := by decide +kernel
theorem dL_law_611 : decode cL_law 611 = .ok (.iconst 1, 1) := by decide +kernel
theorem dL_law_612 : decode cL_law 612 = .ok (.iadd, 1) := by decide +kernel
theorem dL_law_613 : decode cL_law 613 = .ok (.iaload, 1) := by decide +kernel
theorem dL_law_614 : decode cL_law 614 = .ok (.invokevirtual 96, 3) := by decide +kernel
theorem dL_law_617 : decode cL_law 617 = .ok (.if_icmp .eq 133, 3) := by decide +kernel
theorem dL_law_620 : decode cL_law 620 = .ok (.iconst 0, 1) := by decide +kernel
theorem dL_law_621 : decode cL_law 621 = .ok (.ireturn, 1) := by decide +kernel
theorem dL_law_622 : decode cL_law 622 = .ok (.aload_n 1, 1) := by decide +kernel
theorem dL_law_623 : decode cL_law 623 = .ok (.aload_n 0, 1) := by decide +kernel
theorem dL_law_624 : decode cL_law 624 = .ok (.iload_n 3, 1) := by decide +kernel
theorem dL_law_625 : decode cL_law 625 = .ok (.iconst 1, 1) := by decide +kernel
theorem dL_law_626 : decode cL_law 626 = .ok (.iadd, 1) := by decide +kernel
theorem dL_law_627 : decode cL_law 627 = .ok (.iaload, 1) := by decide +kernel
theorem dL_law_628 : decode cL_law 628 = .ok (.invokevirtual 97, 3) := by decide +kernel
theorem dL_law_631 : decode cL_law 631 = .ok (.aload_n 2, 1) := by decide +kernel
theorem dL_law_632 : decode cL_law 632 = .ok (.aload_n 0, 1) := by decide +kernel
theorem dL_law_633 : decode cL_law 633 = .ok (.iload_n 3, 1) := by decide +kernel
theorem dL_law_634 : decode cL_law 634 = .ok (.iconst 1, 1) := by decide +kernel
theorem dL_law_635 : decode cL_law 635 = .ok (.iadd, 1) := by decide +kernel
theorem dL_law_636 : decode cL_law 636 = .ok (.iaload, 1) := by decide +kernel
theorem dL_law_637 : decode cL_law 637 = .ok (.invokevirtual 100, 3) := by decide +kernel
theorem dL_law_640 : decode cL_law 640 = .ok (.if_icmp .eq 110, 3) := by decide +kernel
theorem dL_law_643 : decode cL_law 643 = .ok (.iconst 0, 1) := by decide +kernel
theorem dL_law_644 : decode cL_law 644 = .ok (.ireturn, 1) := by decide +kernel
theorem dL_law_645 : decode cL_law 645 = .ok (.aload_n 1, 1) := by decide +kernel
theorem dL_law_646 : decode cL_law 646 = .ok (.aload_n 0, 1) := by decide +kernel
theorem dL_law_647 : decode cL_law 647 = .ok (.iload_n 3, 1) := by decide +kernel
theorem dL_law_648 : decode cL_law 648 = .ok (.iconst 1, 1) := by decide +kernel
theorem dL_law_649 : decode cL_law 649 = .ok (.iadd, 1) := by decide +kernel
theorem dL_law_650 : decode cL_law 650 = .ok (.iaload, 1) := by decide +kernel
theorem dL_law_651 : decode cL_law 651 = .ok (.invokevirtual 101, 3) := by decide +kernel
theorem dL_law_654 : decode cL_law 654 = .ok (.aload_n 2, 1) := by decide +kernel
theorem dL_law_655 : decode cL_law 655 = .ok (.aload_n 0, 1) := by decide +kernel
theorem dL_law_656 : decode cL_law 656 = .ok (.iload_n 3, 1) := by decide +kernel
theorem dL_law_657 : decode cL_law 657 = .ok (.iconst 1, 1) := by decide +kernel
theorem dL_law_658 : decode cL_law 658 = .ok (.iadd, 1) := by decide +kernel
theorem dL_law_659 : decode cL_law 659 = .ok (.iaload, 1) := by decide +kernel
theorem dL_law_660 : decode cL_law 660 = .ok (.invokevirtual 104, 3) := by decide +kernel
theorem dL_law_663 : decode cL_law 663 = .ok (.if_icmp .eq 87, 3) := by decide +kernel
theorem dL_law_666 : decode cL_law 666 = .ok (.iconst 0, 1) := by decide +kernel
theorem dL_law_667 : decode cL_law 667 = .ok (.ireturn, 1) := by decide +kernel
theorem dL_law_668 : decode cL_law 668 = .ok (.aload_n 1, 1) := by decide +kernel
theorem dL_law_669 : decode cL_law 669 = .ok (.aload_n 0, 1) := by decide +kernel
theorem dL_law_670 : decode cL_law 670 = .ok (.iload_n 3, 1) := by decide +kernel
theorem dL_law_671 : decode cL_law 671 = .ok (.iconst 1, 1) := by decide +kernel
theorem dL_law_672 : decode cL_law 672 = .ok (.iadd, 1) := by decide +kernel
theorem dL_law_673 : decode cL_law 673 = .ok (.iaload, 1) := by decide +kernel
theorem dL_law_674 : decode cL_law 674 = .ok (.aload_n 0, 1) := by decide +kernel
theorem dL_law_675 : decode cL_law 675 = .ok (.iload_n 3, 1) := by decide +kernel
theorem dL_law_676 : decode cL_law 676 = .ok (.iconst 2, 1) := by decide +kernel
theorem dL_law_677 : decode cL_law 677 = .ok (.iadd, 1) := by decide +kernel
theorem dL_law_678 : decode cL_law 678 = .ok (.iaload, 1) := by decide +kernel
theorem dL_law_679 : decode cL_law 679 = .ok (.invokevirtual 105, 3) := by decide +kernel
theorem dL_law_682 : decode cL_law 682 = .ok (.aload_n 2, 1) := by decide +kernel
theorem dL_law_683 : decode cL_law 683 = .ok (.aload_n 0, 1) := by decide +kernel
theorem dL_law_684 : decode cL_law 684 = .ok (.iload_n 3, 1) := by decide +kernel
theorem dL_law_685 : decode cL_law 685 = .ok (.iconst 1, 1) := by decide +kernel
theorem dL_law_686 : decode cL_law 686 = .ok (.iadd, 1) := by decide +kernel
theorem dL_law_687 : decode cL_law 687 = .ok (.iaload, 1) := by decide +kernel
theorem dL_law_688 : decode cL_law 688 = .ok (.aload_n 0, 1) := by decide +kernel
theorem dL_law_689 : decode cL_law 689 = .ok (.iload_n 3, 1) := by decide +kernel
theorem dL_law_690 : decode cL_law 690 = .ok (.iconst 2, 1) := by decide +kernel
theorem dL_law_691 : decode cL_law 691 = .ok (.iadd, 1) := by decide +kernel
theorem dL_law_692 : decode cL_law 692 = .ok (.iaload, 1) := by decide +kernel
theorem dL_law_693 : decode cL_law 693 = .ok (.invokevirtual 108, 3) := by decide +kernel
theorem dL_law_696 : decode cL_law 696 = .ok (.if_icmp .eq 54, 3) := by decide +kernel
theorem dL_law_699 : decode cL_law 699 = .ok (.iconst 0, 1) := by decide +kernel
theorem dL_law_700 : decode cL_law 700 = .ok (.ireturn, 1) := by decide +kernel
theorem dL_law_701 : decode cL_law 701 = .ok (.aload_n 1, 1) := by decide +kernel
theorem dL_law_702 : decode cL_law 702 = .ok (.invokevirtual 109, 3) := by decide +kernel
theorem dL_law_705 : decode cL_law 705 = .ok (.aload_n 2, 1) := by decide +kernel
theorem dL_law_706 : decode cL_law 706 = .ok (.invokevirtual 112, 3) := by decide +kernel
theorem dL_law_709 : decode cL_law 709 = .ok (.if_icmp .eq 41, 3) := by decide +kernel
theorem dL_law_712 : decode cL_law 712 = .ok (.iconst 0, 1) := by decide +kernel
theorem dL_law_713 : decode cL_law 713 = .ok (.ireturn, 1) := by decide +kernel
theorem dL_law_714 : decode cL_law 714 = .ok (.aload_n 1, 1) := by decide +kernel
theorem dL_law_715 : decode cL_law 715 = .ok (.invokevirtual 113, 3) := by decide +kernel
theorem dL_law_718 : decode cL_law 718 = .ok (.aload_n 2, 1) := by decide +kernel
theorem dL_law_719 : decode cL_law 719 = .ok (.invokevirtual 116, 3) := by decide +kernel
theorem dL_law_722 : decode cL_law 722 = .ok (.if_icmp .eq 28, 3) := by decide +kernel
theorem dL_law_725 : decode cL_law 725 = .ok (.iconst 0, 1) := by decide +kernel
theorem dL_law_726 : decode cL_law 726 = .ok (.ireturn, 1) := by decide +kernel
theorem dL_law_727 : decode cL_law 727 = .ok (.aload_n 1, 1) := by decide +kernel
theorem dL_law_728 : decode cL_law 728 = .ok (.aload_n 0, 1) := by decide +kernel
theorem dL_law_729 : decode cL_law 729 = .ok (.iload_n 3, 1) := by decide +kernel
theorem dL_law_730 : decode cL_law 730 = .ok (.iconst 1, 1) := by decide +kernel
theorem dL_law_731 : decode cL_law 731 = .ok (.iadd, 1) := by decide +kernel
theorem dL_law_732 : decode cL_law 732 = .ok (.iaload, 1) := by decide +kernel
theorem dL_law_733 : decode cL_law 733 = .ok (.invokevirtual 117, 3) := by decide +kernel
theorem dL_law_736 : decode cL_law 736 = .ok (.aload_n 2, 1) := by decide +kernel
theorem dL_law_737 : decode cL_law 737 = .ok (.aload_n 0, 1) := by decide +kernel
theorem dL_law_738 : decode cL_law 738 = .ok (.iload_n 3, 1) := by decide +kernel
theorem dL_law_739 : decode cL_law 739 = .ok (.iconst 1, 1) := by decide +kernel
theorem dL_law_740 : decode cL_law 740 = .ok (.iadd, 1) := by decide +kernel
theorem dL_law_741 : decode cL_law 741 = .ok (.iaload, 1) := by decide +kernel
theorem dL_law_742 : decode cL_law 742 = .ok (.invokevirtual 120, 3) := by decide +kernel
theorem dL_law_745 : decode cL_law 745 = .ok (.if_icmp .eq 5, 3) := by decide +kernel
theorem dL_law_748 : decode cL_law 748 = .ok (.iconst 0, 1) := by decide +kernel
theorem dL_law_749 : decode cL_law 749 = .ok (.ireturn, 1) := by decide +kernel
theorem dL_law_750 : decode cL_law 750 = .ok (.iinc 3 4, 3) := by decide +kernel
theorem dL_law_753 : decode cL_law 753 = .ok (.goto (-735), 3) := by decide +kernel
theorem dL_law_756 : decode cL_law 756 = .ok (.iconst 1, 1) := by decide +kernel
theorem dL_law_757 : decode cL_law 757 = .ok (.ireturn, 1) := by decide +kernel
