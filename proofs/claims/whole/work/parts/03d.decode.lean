theorem d_L_law_375 : decode code 375 = .ok (.if_icmp .eq 5, 3) := by decide +kernel
theorem d_L_law_378 : decode code 378 = .ok (.iconst 0, 1) := by decide +kernel
theorem d_L_law_379 : decode code 379 = .ok (.ireturn, 1) := by decide +kernel
theorem d_L_law_380 : decode code 380 = .ok (.iload 5, 2) := by decide +kernel
theorem d_L_law_382 : decode code 382 = .ok (.ifCond .ne 15, 3) := by decide +kernel
theorem d_L_law_385 : decode code 385 = .ok (.aload_n 3, 1) := by decide +kernel
theorem d_L_law_386 : decode code 386 = .ok (.iconst 0, 1) := by decide +kernel
theorem d_L_law_387 : decode code 387 = .ok (.laload, 1) := by decide +kernel
theorem d_L_law_388 : decode code 388 = .ok (.iload 6, 2) := by decide +kernel
theorem d_L_law_390 : decode code 390 = .ok (.i2l, 1) := by decide +kernel
theorem d_L_law_391 : decode code 391 = .ok (.lcmp, 1) := by decide +kernel
theorem d_L_law_392 : decode code 392 = .ok (.ifCond .eq 5, 3) := by decide +kernel
theorem d_L_law_395 : decode code 395 = .ok (.iconst 0, 1) := by decide +kernel
theorem d_L_law_396 : decode code 396 = .ok (.ireturn, 1) := by decide +kernel
theorem d_L_law_397 : decode code 397 = .ok (.goto 450, 3) := by decide +kernel
theorem d_L_law_400 : decode code 400 = .ok (.aload_n 1, 1) := by decide +kernel
theorem d_L_law_401 : decode code 401 = .ok (.aload_n 0, 1) := by decide +kernel
theorem d_L_law_402 : decode code 402 = .ok (.iload 4, 2) := by decide +kernel
theorem d_L_law_404 : decode code 404 = .ok (.iconst 1, 1) := by decide +kernel
theorem d_L_law_405 : decode code 405 = .ok (.iadd, 1) := by decide +kernel
theorem d_L_law_406 : decode code 406 = .ok (.iaload, 1) := by decide +kernel
theorem d_L_law_407 : decode code 407 = .ok (.aload_n 3, 1) := by decide +kernel
theorem d_L_law_408 : decode code 408 = .ok (.invokestatic 83, 3) := by decide +kernel
theorem d_L_law_411 : decode code 411 = .ok (.istore 5, 2) := by decide +kernel
theorem d_L_law_413 : decode code 413 = .ok (.aload_n 2, 1) := by decide +kernel
theorem d_L_law_414 : decode code 414 = .ok (.aload_n 0, 1) := by decide +kernel
theorem d_L_law_415 : decode code 415 = .ok (.iload 4, 2) := by decide +kernel
theorem d_L_law_417 : decode code 417 = .ok (.iconst 1, 1) := by decide +kernel
theorem d_L_law_418 : decode code 418 = .ok (.iadd, 1) := by decide +kernel
theorem d_L_law_419 : decode code 419 = .ok (.iaload, 1) := by decide +kernel
theorem d_L_law_420 : decode code 420 = .ok (.invokevirtual 86, 3) := by decide +kernel
theorem d_L_law_423 : decode code 423 = .ok (.istore 6, 2) := by decide +kernel
theorem d_L_law_425 : decode code 425 = .ok (.aload_n 2, 1) := by decide +kernel
theorem d_L_law_426 : decode code 426 = .ok (.invokevirtual 69, 3) := by decide +kernel
theorem d_L_law_429 : decode code 429 = .ok (.iload 5, 2) := by decide +kernel
theorem d_L_law_431 : decode code 431 = .ok (.if_icmp .eq 5, 3) := by decide +kernel
theorem d_L_law_434 : decode code 434 = .ok (.iconst 0, 1) := by decide +kernel
theorem d_L_law_435 : decode code 435 = .ok (.ireturn, 1) := by decide +kernel
theorem d_L_law_436 : decode code 436 = .ok (.iload 5, 2) := by decide +kernel
theorem d_L_law_438 : decode code 438 = .ok (.ifCond .ne 15, 3) := by decide +kernel
theorem d_L_law_441 : decode code 441 = .ok (.aload_n 3, 1) := by decide +kernel
theorem d_L_law_442 : decode code 442 = .ok (.iconst 0, 1) := by decide +kernel
theorem d_L_law_443 : decode code 443 = .ok (.laload, 1) := by decide +kernel
theorem d_L_law_444 : decode code 444 = .ok (.iload 6, 2) := by decide +kernel
theorem d_L_law_446 : decode code 446 = .ok (.i2l, 1) := by decide +kernel
theorem d_L_law_447 : decode code 447 = .ok (.lcmp, 1) := by decide +kernel
theorem d_L_law_448 : decode code 448 = .ok (.ifCond .eq 5, 3) := by decide +kernel
theorem d_L_law_451 : decode code 451 = .ok (.iconst 0, 1) := by decide +kernel
theorem d_L_law_452 : decode code 452 = .ok (.ireturn, 1) := by decide +kernel
theorem d_L_law_453 : decode code 453 = .ok (.goto 394, 3) := by decide +kernel
theorem d_L_law_456 : decode code 456 = .ok (.aload_n 1, 1) := by decide +kernel
theorem d_L_law_457 : decode code 457 = .ok (.aload_n 0, 1) := by decide +kernel
theorem d_L_law_458 : decode code 458 = .ok (.iload 4, 2) := by decide +kernel
theorem d_L_law_460 : decode code 460 = .ok (.iconst 1, 1) := by decide +kernel
theorem d_L_law_461 : decode code 461 = .ok (.iadd, 1) := by decide +kernel
theorem d_L_law_462 : decode code 462 = .ok (.iaload, 1) := by decide +kernel
theorem d_L_law_463 : decode code 463 = .ok (.aload_n 0, 1) := by decide +kernel
theorem d_L_law_464 : decode code 464 = .ok (.iload 4, 2) := by decide +kernel
theorem d_L_law_466 : decode code 466 = .ok (.iconst 2, 1) := by decide +kernel
theorem d_L_law_467 : decode code 467 = .ok (.iadd, 1) := by decide +kernel
theorem d_L_law_468 : decode code 468 = .ok (.iaload, 1) := by decide +kernel
theorem d_L_law_469 : decode code 469 = .ok (.aload_n 0, 1) := by decide +kernel
theorem d_L_law_470 : decode code 470 = .ok (.iload 4, 2) := by decide +kernel
theorem d_L_law_472 : decode code 472 = .ok (.iconst 3, 1) := by decide +kernel
theorem d_L_law_473 : decode code 473 = .ok (.iadd, 1) := by decide +kernel
theorem d_L_law_474 : decode code 474 = .ok (.iaload, 1) := by decide +kernel
theorem d_L_law_475 : decode code 475 = .ok (.aload_n 3, 1) := by decide +kernel
theorem d_L_law_476 : decode code 476 = .ok (.invokestatic 87, 3) := by decide +kernel
theorem d_L_law_479 : decode code 479 = .ok (.istore 5, 2) := by decide +kernel
theorem d_L_law_481 : decode code 481 = .ok (.aload_n 2, 1) := by decide +kernel
theorem d_L_law_482 : decode code 482 = .ok (.aload_n 0, 1) := by decide +kernel
theorem d_L_law_483 : decode code 483 = .ok (.iload 4, 2) := by decide +kernel
theorem d_L_law_485 : decode code 485 = .ok (.iconst 1, 1) := by decide +kernel
theorem d_L_law_486 : decode code 486 = .ok (.iadd, 1) := by decide +kernel
theorem d_L_law_487 : decode code 487 = .ok (.iaload, 1) := by decide +kernel
theorem d_L_law_488 : decode code 488 = .ok (.aload_n 0, 1) := by decide +kernel
theorem d_L_law_489 : decode code 489 = .ok (.iload 4, 2) := by decide +kernel
theorem d_L_law_491 : decode code 491 = .ok (.iconst 2, 1) := by decide +kernel
theorem d_L_law_492 : decode code 492 = .ok (.iadd, 1) := by decide +kernel
theorem d_L_law_493 : decode code 493 = .ok (.iaload, 1) := by decide +kernel
theorem d_L_law_494 : decode code 494 = .ok (.aload_n 0, 1) := by decide +kernel
theorem d_L_law_495 : decode code 495 = .ok (.iload 4, 2) := by decide +kernel
theorem d_L_law_497 : decode code 497 = .ok (.iconst 3, 1) := by decide +kernel
theorem d_L_law_498 : decode code 498 = .ok (.iadd, 1) := by decide +kernel
theorem d_L_law_499 : decode code 499 = .ok (.iaload, 1) := by decide +kernel
theorem d_L_law_500 : decode code 500 = .ok (.invokevirtual 90, 3) := by decide +kernel
theorem d_L_law_503 : decode code 503 = .ok (.istore 6, 2) := by decide +kernel
theorem d_L_law_505 : decode code 505 = .ok (.aload_n 2, 1) := by decide +kernel
theorem d_L_law_506 : decode code 506 = .ok (.invokevirtual 69, 3) := by decide +kernel
theorem d_L_law_509 : decode code 509 = .ok (.iload 5, 2) := by decide +kernel
theorem d_L_law_511 : decode code 511 = .ok (.if_icmp .eq 5, 3) := by decide +kernel
theorem d_L_law_514 : decode code 514 = .ok (.iconst 0, 1) := by decide +kernel
theorem d_L_law_515 : decode code 515 = .ok (.ireturn, 1) := by decide +kernel
theorem d_L_law_516 : decode code 516 = .ok (.iload 5, 2) := by decide +kernel
theorem d_L_law_518 : decode code 518 = .ok (.ifCond .ne 15, 3) := by decide +kernel
theorem d_L_law_521 : decode code 521 = .ok (.aload_n 3, 1) := by decide +kernel
theorem d_L_law_522 : decode code 522 = .ok (.iconst 0, 1) := by decide +kernel
theorem d_L_law_523 : decode code 523 = .ok (.laload, 1) := by decide +kernel
theorem d_L_law_524 : decode code 524 = .ok (.iload 6, 2) := by decide +kernel
theorem d_L_law_526 : decode code 526 = .ok (.i2l, 1) := by decide +kernel
theorem d_L_law_527 : decode code 527 = .ok (.lcmp, 1) := by decide +kernel
theorem d_L_law_528 : decode code 528 = .ok (.ifCond .eq 5, 3) := by decide +kernel
theorem d_L_law_531 : decode code 531 = .ok (.iconst 0, 1) := by decide +kernel
theorem d_L_law_532 : decode code 532 = .ok (.ireturn, 1) := by decide +kernel
theorem d_L_law_533 : decode code 533 = .ok (.goto 314, 3) := by decide +kernel
theorem d_L_law_536 : decode code 536 = .ok (.aload_n 1, 1) := by decide +kernel
theorem d_L_law_537 : decode code 537 = .ok (.aload_n 0, 1) := by decide +kernel
theorem d_L_law_538 : decode code 538 = .ok (.iload 4, 2) := by decide +kernel
theorem d_L_law_540 : decode code 540 = .ok (.iconst 1, 1) := by decide +kernel
theorem d_L_law_541 : decode code 541 = .ok (.iadd, 1) := by decide +kernel
theorem d_L_law_542 : decode code 542 = .ok (.iaload, 1) := by decide +kernel
theorem d_L_law_543 : decode code 543 = .ok (.aload_n 0, 1) := by decide +kernel
theorem d_L_law_544 : decode code 544 = .ok (.iload 4, 2) := by decide +kernel
theorem d_L_law_546 : decode code 546 = .ok (.iconst 2, 1) := by decide +kernel
theorem d_L_law_547 : decode code 547 = .ok (.iadd, 1) := by decide +kernel
theorem d_L_law_548 : decode code 548 = .ok (.iaload, 1) := by decide +kernel
theorem d_L_law_549 : decode code 549 = .ok (.aload_n 3, 1) := by decide +kernel
theorem d_L_law_550 : decode code 550 = .ok (.invokestatic 91, 3) := by decide +kernel
theorem d_L_law_553 : decode code 553 = .ok (.istore 5, 2) := by decide +kernel
theorem d_L_law_555 : decode code 555 = .ok (.aload_n 2, 1) := by decide +kernel
theorem d_L_law_556 : decode code 556 = .ok (.aload_n 0, 1) := by decide +kernel
theorem d_L_law_557 : decode code 557 = .ok (.iload 4, 2) := by decide +kernel
theorem d_L_law_559 : decode code 559 = .ok (.iconst 1, 1) := by decide +kernel
theorem d_L_law_560 : decode code 560 = .ok (.iadd, 1) := by decide +kernel
theorem d_L_law_561 : decode code 561 = .ok (.iaload, 1) := by decide +kernel
theorem d_L_law_562 : decode code 562 = .ok (.aload_n 0, 1) := by decide +kernel
theorem d_L_law_563 : decode code 563 = .ok (.iload 4, 2) := by decide +kernel
theorem d_L_law_565 : decode code 565 = .ok (.iconst 2, 1) := by decide +kernel
theorem d_L_law_566 : decode code 566 = .ok (.iadd, 1) := by decide +kernel
theorem d_L_law_567 : decode code 567 = .ok (.iaload, 1) := by decide +kernel
theorem d_L_law_568 : decode code 568 = .ok (.invokevirtual 93, 3) := by decide +kernel
theorem d_L_law_571 : decode code 571 = .ok (.istore 6, 2) := by decide +kernel
theorem d_L_law_573 : decode code 573 = .ok (.aload_n 2, 1) := by decide +kernel
theorem d_L_law_574 : decode code 574 = .ok (.invokevirtual 69, 3) := by decide +kernel
theorem d_L_law_577 : decode code 577 = .ok (.iload 5, 2) := by decide +kernel
theorem d_L_law_579 : decode code 579 = .ok (.if_icmp .eq 5, 3) := by decide +kernel
theorem d_L_law_582 : decode code 582 = .ok (.iconst 0, 1) := by decide +kernel
theorem d_L_law_583 : decode code 583 = .ok (.ireturn, 1) := by decide +kernel
theorem d_L_law_584 : decode code 584 = .ok (.iload 5, 2) := by decide +kernel
theorem d_L_law_586 : decode code 586 = .ok (.ifCond .ne 15, 3) := by decide +kernel
theorem d_L_law_589 : decode code 589 = .ok (.aload_n 3, 1) := by decide +kernel
theorem d_L_law_590 : decode code 590 = .ok (.iconst 0, 1) := by decide +kernel
theorem d_L_law_591 : decode code 591 = .ok (.laload, 1) := by decide +kernel
theorem d_L_law_592 : decode code 592 = .ok (.iload 6, 2) := by decide +kernel
theorem d_L_law_594 : decode code 594 = .ok (.i2l, 1) := by decide +kernel
theorem d_L_law_595 : decode code 595 = .ok (.lcmp, 1) := by decide +kernel
theorem d_L_law_596 : decode code 596 = .ok (.ifCond .eq 5, 3) := by decide +kernel
theorem d_L_law_599 : decode code 599 = .ok (.iconst 0, 1) := by decide +kernel
theorem d_L_law_600 : decode code 600 = .ok (.ireturn, 1) := by decide +kernel
theorem d_L_law_601 : decode code 601 = .ok (.goto 246, 3) := by decide +kernel
theorem d_L_law_604 : decode code 604 = .ok (.aload_n 1, 1) := by decide +kernel
theorem d_L_law_605 : decode code 605 = .ok (.aload_n 0, 1) := by decide +kernel
theorem d_L_law_606 : decode code 606 = .ok (.iload 4, 2) := by decide +kernel
theorem d_L_law_608 : decode code 608 = .ok (.iconst 1, 1) := by decide +kernel
theorem d_L_law_609 : decode code 609 = .ok (.iadd, 1) := by decide +kernel
theorem d_L_law_610 : decode code 610 = .ok (.iaload, 1) := by decide +kernel
theorem d_L_law_611 : decode code 611 = .ok (.aload_n 0, 1) := by decide +kernel
theorem d_L_law_612 : decode code 612 = .ok (.iload 4, 2) := by decide +kernel
theorem d_L_law_614 : decode code 614 = .ok (.iconst 2, 1) := by decide +kernel
theorem d_L_law_615 : decode code 615 = .ok (.iadd, 1) := by decide +kernel
theorem d_L_law_616 : decode code 616 = .ok (.iaload, 1) := by decide +kernel
theorem d_L_law_617 : decode code 617 = .ok (.aload_n 3, 1) := by decide +kernel
theorem d_L_law_618 : decode code 618 = .ok (.invokestatic 94, 3) := by decide +kernel
theorem d_L_law_621 : decode code 621 = .ok (.istore 5, 2) := by decide +kernel
theorem d_L_law_623 : decode code 623 = .ok (.aload_n 2, 1) := by decide +kernel
theorem d_L_law_624 : decode code 624 = .ok (.aload_n 0, 1) := by decide +kernel
theorem d_L_law_625 : decode code 625 = .ok (.iload 4, 2) := by decide +kernel
theorem d_L_law_627 : decode code 627 = .ok (.iconst 1, 1) := by decide +kernel
theorem d_L_law_628 : decode code 628 = .ok (.iadd, 1) := by decide +kernel
theorem d_L_law_629 : decode code 629 = .ok (.iaload, 1) := by decide +kernel
theorem d_L_law_630 : decode code 630 = .ok (.aload_n 0, 1) := by decide +kernel
theorem d_L_law_631 : decode code 631 = .ok (.iload 4, 2) := by decide +kernel
theorem d_L_law_633 : decode code 633 = .ok (.iconst 2, 1) := by decide +kernel
theorem d_L_law_634 : decode code 634 = .ok (.iadd, 1) := by decide +kernel
theorem d_L_law_635 : decode code 635 = .ok (.iaload, 1) := by decide +kernel
theorem d_L_law_636 : decode code 636 = .ok (.invokevirtual 96, 3) := by decide +kernel
theorem d_L_law_639 : decode code 639 = .ok (.istore 6, 2) := by decide +kernel
theorem d_L_law_641 : decode code 641 = .ok (.aload_n 2, 1) := by decide +kernel
theorem d_L_law_642 : decode code 642 = .ok (.invokevirtual 69, 3) := by decide +kernel
theorem d_L_law_645 : decode code 645 = .ok (.iload 5, 2) := by decide +kernel
theorem d_L_law_647 : decode code 647 = .ok (.if_icmp .eq 5, 3) := by decide +kernel
theorem d_L_law_650 : decode code 650 = .ok (.iconst 0, 1) := by decide +kernel
theorem d_L_law_651 : decode code 651 = .ok (.ireturn, 1) := by decide +kernel
theorem d_L_law_652 : decode code 652 = .ok (.iload 5, 2) := by decide +kernel
theorem d_L_law_654 : decode code 654 = .ok (.ifCond .ne 15, 3) := by decide +kernel
theorem d_L_law_657 : decode code 657 = .ok (.aload_n 3, 1) := by decide +kernel
theorem d_L_law_658 : decode code 658 = .ok (.iconst 0, 1) := by decide +kernel
theorem d_L_law_659 : decode code 659 = .ok (.laload, 1) := by decide +kernel
theorem d_L_law_660 : decode code 660 = .ok (.iload 6, 2) := by decide +kernel
theorem d_L_law_662 : decode code 662 = .ok (.i2l, 1) := by decide +kernel
theorem d_L_law_663 : decode code 663 = .ok (.lcmp, 1) := by decide +kernel
theorem d_L_law_664 : decode code 664 = .ok (.ifCond .eq 5, 3) := by decide +kernel
theorem d_L_law_667 : decode code 667 = .ok (.iconst 0, 1) := by decide +kernel
theorem d_L_law_668 : decode code 668 = .ok (.ireturn, 1) := by decide +kernel
theorem d_L_law_669 : decode code 669 = .ok (.goto 178, 3) := by decide +kernel
theorem d_L_law_672 : decode code 672 = .ok (.aload_n 1, 1) := by decide +kernel
theorem d_L_law_673 : decode code 673 = .ok (.aload_n 0, 1) := by decide +kernel
theorem d_L_law_674 : decode code 674 = .ok (.iload 4, 2) := by decide +kernel
theorem d_L_law_676 : decode code 676 = .ok (.iconst 1, 1) := by decide +kernel
theorem d_L_law_677 : decode code 677 = .ok (.iadd, 1) := by decide +kernel
theorem d_L_law_678 : decode code 678 = .ok (.iaload, 1) := by decide +kernel
theorem d_L_law_679 : decode code 679 = .ok (.invokestatic 97, 3) := by decide +kernel
theorem d_L_law_682 : decode code 682 = .ok (.istore 5, 2) := by decide +kernel
theorem d_L_law_684 : decode code 684 = .ok (.aload_n 2, 1) := by decide +kernel
theorem d_L_law_685 : decode code 685 = .ok (.aload_n 0, 1) := by decide +kernel
theorem d_L_law_686 : decode code 686 = .ok (.iload 4, 2) := by decide +kernel
theorem d_L_law_688 : decode code 688 = .ok (.iconst 1, 1) := by decide +kernel
theorem d_L_law_689 : decode code 689 = .ok (.iadd, 1) := by decide +kernel
theorem d_L_law_690 : decode code 690 = .ok (.iaload, 1) := by decide +kernel
theorem d_L_law_691 : decode code 691 = .ok (.invokevirtual 100, 3) := by decide +kernel
theorem d_L_law_694 : decode code 694 = .ok (.aload_n 2, 1) := by decide +kernel
theorem d_L_law_695 : decode code 695 = .ok (.invokevirtual 69, 3) := by decide +kernel
theorem d_L_law_698 : decode code 698 = .ok (.iload 5, 2) := by decide +kernel
theorem d_L_law_700 : decode code 700 = .ok (.if_icmp .eq 5, 3) := by decide +kernel
theorem d_L_law_703 : decode code 703 = .ok (.iconst 0, 1) := by decide +kernel
theorem d_L_law_704 : decode code 704 = .ok (.ireturn, 1) := by decide +kernel
theorem d_L_law_705 : decode code 705 = .ok (.goto 142, 3) := by decide +kernel
theorem d_L_law_708 : decode code 708 = .ok (.aload_n 1, 1) := by decide +kernel
theorem d_L_law_709 : decode code 709 = .ok (.invokevirtual 101, 3) := by decide +kernel
theorem d_L_law_712 : decode code 712 = .ok (.aload_n 2, 1) := by decide +kernel
theorem d_L_law_713 : decode code 713 = .ok (.invokevirtual 104, 3) := by decide +kernel
theorem d_L_law_716 : decode code 716 = .ok (.if_icmp .eq 131, 3) := by decide +kernel
theorem d_L_law_719 : decode code 719 = .ok (.iconst 0, 1) := by decide +kernel
theorem d_L_law_720 : decode code 720 = .ok (.ireturn, 1) := by decide +kernel
theorem d_L_law_721 : decode code 721 = .ok (.aload_n 1, 1) := by decide +kernel
theorem d_L_law_722 : decode code 722 = .ok (.invokevirtual 105, 3) := by decide +kernel
theorem d_L_law_725 : decode code 725 = .ok (.aload_n 2, 1) := by decide +kernel
theorem d_L_law_726 : decode code 726 = .ok (.invokevirtual 109, 3) := by decide +kernel
theorem d_L_law_729 : decode code 729 = .ok (.if_icmp .eq 118, 3) := by decide +kernel
theorem d_L_law_732 : decode code 732 = .ok (.iconst 0, 1) := by decide +kernel
theorem d_L_law_733 : decode code 733 = .ok (.ireturn, 1) := by decide +kernel
theorem d_L_law_734 : decode code 734 = .ok (.aload_n 1, 1) := by decide +kernel
theorem d_L_law_735 : decode code 735 = .ok (.invokevirtual 110, 3) := by decide +kernel
theorem d_L_law_738 : decode code 738 = .ok (.aload_n 2, 1) := by decide +kernel
theorem d_L_law_739 : decode code 739 = .ok (.invokevirtual 113, 3) := by decide +kernel
theorem d_L_law_742 : decode code 742 = .ok (.if_icmp .eq 105, 3) := by decide +kernel
theorem d_L_law_745 : decode code 745 = .ok (.iconst 0, 1) := by decide +kernel
theorem d_L_law_746 : decode code 746 = .ok (.ireturn, 1) := by decide +kernel
theorem d_L_law_747 : decode code 747 = .ok (.aload_n 1, 1) := by decide +kernel
theorem d_L_law_748 : decode code 748 = .ok (.aload_n 0, 1) := by decide +kernel
theorem d_L_law_749 : decode code 749 = .ok (.iload 4, 2) := by decide +kernel
theorem d_L_law_751 : decode code 751 = .ok (.iconst 1, 1) := by decide +kernel
theorem d_L_law_752 : decode code 752 = .ok (.iadd, 1) := by decide +kernel
theorem d_L_law_753 : decode code 753 = .ok (.iaload, 1) := by decide +kernel
theorem d_L_law_754 : decode code 754 = .ok (.aload_n 3, 1) := by decide +kernel
theorem d_L_law_755 : decode code 755 = .ok (.invokestatic 114, 3) := by decide +kernel
theorem d_L_law_758 : decode code 758 = .ok (.istore 5, 2) := by decide +kernel
theorem d_L_law_760 : decode code 760 = .ok (.aload_n 2, 1) := by decide +kernel
theorem d_L_law_761 : decode code 761 = .ok (.aload_n 0, 1) := by decide +kernel
theorem d_L_law_762 : decode code 762 = .ok (.iload 4, 2) := by decide +kernel
theorem d_L_law_764 : decode code 764 = .ok (.iconst 1, 1) := by decide +kernel
theorem d_L_law_765 : decode code 765 = .ok (.iadd, 1) := by decide +kernel
theorem d_L_law_766 : decode code 766 = .ok (.iaload, 1) := by decide +kernel
theorem d_L_law_767 : decode code 767 = .ok (.invokevirtual 116, 3) := by decide +kernel
theorem d_L_law_770 : decode code 770 = .ok (.istore 6, 2) := by decide +kernel
theorem d_L_law_772 : decode code 772 = .ok (.aload_n 2, 1) := by decide +kernel
theorem d_L_law_773 : decode code 773 = .ok (.invokevirtual 69, 3) := by decide +kernel
theorem d_L_law_776 : decode code 776 = .ok (.iload 5, 2) := by decide +kernel
theorem d_L_law_778 : decode code 778 = .ok (.if_icmp .eq 5, 3) := by decide +kernel
theorem d_L_law_781 : decode code 781 = .ok (.iconst 0, 1) := by decide +kernel
theorem d_L_law_782 : decode code 782 = .ok (.ireturn, 1) := by decide +kernel
theorem d_L_law_783 : decode code 783 = .ok (.iload 5, 2) := by decide +kernel
theorem d_L_law_785 : decode code 785 = .ok (.ifCond .ne 15, 3) := by decide +kernel
theorem d_L_law_788 : decode code 788 = .ok (.aload_n 3, 1) := by decide +kernel
theorem d_L_law_789 : decode code 789 = .ok (.iconst 0, 1) := by decide +kernel
theorem d_L_law_790 : decode code 790 = .ok (.laload, 1) := by decide +kernel
theorem d_L_law_791 : decode code 791 = .ok (.iload 6, 2) := by decide +kernel
theorem d_L_law_793 : decode code 793 = .ok (.i2l, 1) := by decide +kernel
theorem d_L_law_794 : decode code 794 = .ok (.lcmp, 1) := by decide +kernel
theorem d_L_law_795 : decode code 795 = .ok (.ifCond .eq 5, 3) := by decide +kernel
theorem d_L_law_798 : decode code 798 = .ok (.iconst 0, 1) := by decide +kernel
theorem d_L_law_799 : decode code 799 = .ok (.ireturn, 1) := by decide +kernel
theorem d_L_law_800 : decode code 800 = .ok (.goto 47, 3) := by decide +kernel
theorem d_L_law_803 : decode code 803 = .ok (.aload_n 1, 1) := by decide +kernel
theorem d_L_law_804 : decode code 804 = .ok (.aload_n 3, 1) := by decide +kernel
theorem d_L_law_805 : decode code 805 = .ok (.invokestatic 117, 3) := by decide +kernel
theorem d_L_law_808 : decode code 808 = .ok (.istore 5, 2) := by decide +kernel
theorem d_L_law_810 : decode code 810 = .ok (.aload_n 2, 1) := by decide +kernel
theorem d_L_law_811 : decode code 811 = .ok (.invokevirtual 119, 3) := by decide +kernel
theorem d_L_law_814 : decode code 814 = .ok (.istore 6, 2) := by decide +kernel
theorem d_L_law_816 : decode code 816 = .ok (.aload_n 2, 1) := by decide +kernel
theorem d_L_law_817 : decode code 817 = .ok (.invokevirtual 69, 3) := by decide +kernel
theorem d_L_law_820 : decode code 820 = .ok (.iload 5, 2) := by decide +kernel
theorem d_L_law_822 : decode code 822 = .ok (.if_icmp .eq 5, 3) := by decide +kernel
theorem d_L_law_825 : decode code 825 = .ok (.iconst 0, 1) := by decide +kernel
theorem d_L_law_826 : decode code 826 = .ok (.ireturn, 1) := by decide +kernel
theorem d_L_law_827 : decode code 827 = .ok (.iload 5, 2) := by decide +kernel
theorem d_L_law_829 : decode code 829 = .ok (.ifCond .ne 15, 3) := by decide +kernel
theorem d_L_law_832 : decode code 832 = .ok (.aload_n 3, 1) := by decide +kernel
theorem d_L_law_833 : decode code 833 = .ok (.iconst 0, 1) := by decide +kernel
theorem d_L_law_834 : decode code 834 = .ok (.laload, 1) := by decide +kernel
theorem d_L_law_835 : decode code 835 = .ok (.iload 6, 2) := by decide +kernel
theorem d_L_law_837 : decode code 837 = .ok (.i2l, 1) := by decide +kernel
theorem d_L_law_838 : decode code 838 = .ok (.lcmp, 1) := by decide +kernel
theorem d_L_law_839 : decode code 839 = .ok (.ifCond .eq 5, 3) := by decide +kernel
theorem d_L_law_842 : decode code 842 = .ok (.iconst 0, 1) := by decide +kernel
theorem d_L_law_843 : decode code 843 = .ok (.ireturn, 1) := by decide +kernel
theorem d_L_law_844 : decode code 844 = .ok (.goto 3, 3) := by decide +kernel
theorem d_L_law_847 : decode code 847 = .ok (.iinc 4 4, 3) := by decide +kernel
theorem d_L_law_850 : decode code 850 = .ok (.goto (-817), 3) := by decide +kernel
theorem d_L_law_853 : decode code 853 = .ok (.iconst 1, 1) := by decide +kernel
theorem d_L_law_854 : decode code 854 = .ok (.ireturn, 1) := by decide +kernel
