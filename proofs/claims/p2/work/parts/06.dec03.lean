theorem d_Teller_perform_447 : decode prog_6_method_7_code 447 = .ok (.iconst 1, 1) := by decide +kernel
theorem d_Teller_perform_448 : decode prog_6_method_7_code 448 = .ok (.aload_n 0, 1) := by decide +kernel
theorem d_Teller_perform_449 : decode prog_6_method_7_code 449 = .ok (.aload_n 0, 1) := by decide +kernel
theorem d_Teller_perform_450 : decode prog_6_method_7_code 450 = .ok (.getfield 22, 3) := by decide +kernel
theorem d_Teller_perform_453 : decode prog_6_method_7_code 453 = .ok (.getfield 52, 3) := by decide +kernel
theorem d_Teller_perform_456 : decode prog_6_method_7_code 456 = .ok (.iconst 1, 1) := by decide +kernel
theorem d_Teller_perform_457 : decode prog_6_method_7_code 457 = .ok (.isub, 1) := by decide +kernel
theorem d_Teller_perform_458 : decode prog_6_method_7_code 458 = .ok (.invokevirtual 158, 3) := by decide +kernel
theorem d_Teller_perform_461 : decode prog_6_method_7_code 461 = .ok (.invokevirtual 161, 3) := by decide +kernel
theorem d_Teller_perform_464 : decode prog_6_method_7_code 464 = .ok (.ifCond .eq 7, 3) := by decide +kernel
theorem d_Teller_perform_467 : decode prog_6_method_7_code 467 = .ok (.iconst 1, 1) := by decide +kernel
theorem d_Teller_perform_468 : decode prog_6_method_7_code 468 = .ok (.goto 4, 3) := by decide +kernel
theorem d_Teller_perform_471 : decode prog_6_method_7_code 471 = .ok (.iconst 0, 1) := by decide +kernel
theorem d_Teller_perform_472 : decode prog_6_method_7_code 472 = .ok (.ireturn, 1) := by decide +kernel
theorem d_Teller_perform_473 : decode prog_6_method_7_code 473 = .ok (.aload_n 0, 1) := by decide +kernel
theorem d_Teller_perform_474 : decode prog_6_method_7_code 474 = .ok (.aload_n 1, 1) := by decide +kernel
theorem d_Teller_perform_475 : decode prog_6_method_7_code 475 = .ok (.iload_n 3, 1) := by decide +kernel
theorem d_Teller_perform_476 : decode prog_6_method_7_code 476 = .ok (.i2b, 1) := by decide +kernel
theorem d_Teller_perform_477 : decode prog_6_method_7_code 477 = .ok (.invokevirtual 165, 3) := by decide +kernel
theorem d_Teller_perform_480 : decode prog_6_method_7_code 480 = .ok (.ireturn, 1) := by decide +kernel
theorem d_Teller_perform_481 : decode prog_6_method_7_code 481 = .ok (.aload_n 0, 1) := by decide +kernel
theorem d_Teller_perform_482 : decode prog_6_method_7_code 482 = .ok (.aload_n 1, 1) := by decide +kernel
theorem d_Teller_perform_483 : decode prog_6_method_7_code 483 = .ok (.iload_n 3, 1) := by decide +kernel
theorem d_Teller_perform_484 : decode prog_6_method_7_code 484 = .ok (.i2b, 1) := by decide +kernel
theorem d_Teller_perform_485 : decode prog_6_method_7_code 485 = .ok (.invokevirtual 168, 3) := by decide +kernel
theorem d_Teller_perform_488 : decode prog_6_method_7_code 488 = .ok (.ireturn, 1) := by decide +kernel
theorem d_Teller_perform_489 : decode prog_6_method_7_code 489 = .ok (.aload_n 0, 1) := by decide +kernel
theorem d_Teller_perform_490 : decode prog_6_method_7_code 490 = .ok (.aload_n 1, 1) := by decide +kernel
theorem d_Teller_perform_491 : decode prog_6_method_7_code 491 = .ok (.iload_n 3, 1) := by decide +kernel
theorem d_Teller_perform_492 : decode prog_6_method_7_code 492 = .ok (.aload_n 0, 1) := by decide +kernel
theorem d_Teller_perform_493 : decode prog_6_method_7_code 493 = .ok (.getfield 36, 3) := by decide +kernel
theorem d_Teller_perform_496 : decode prog_6_method_7_code 496 = .ok (.aload_n 1, 1) := by decide +kernel
theorem d_Teller_perform_497 : decode prog_6_method_7_code 497 = .ok (.getfield 97, 3) := by decide +kernel
theorem d_Teller_perform_500 : decode prog_6_method_7_code 500 = .ok (.iconst 2, 1) := by decide +kernel
theorem d_Teller_perform_501 : decode prog_6_method_7_code 501 = .ok (.iadd, 1) := by decide +kernel
theorem d_Teller_perform_502 : decode prog_6_method_7_code 502 = .ok (.invokevirtual 112, 3) := by decide +kernel
theorem d_Teller_perform_505 : decode prog_6_method_7_code 505 = .ok (.invokevirtual 171, 3) := by decide +kernel
theorem d_Teller_perform_508 : decode prog_6_method_7_code 508 = .ok (.ireturn, 1) := by decide +kernel
theorem d_Teller_perform_509 : decode prog_6_method_7_code 509 = .ok (.aload_n 0, 1) := by decide +kernel
theorem d_Teller_perform_510 : decode prog_6_method_7_code 510 = .ok (.aload_n 1, 1) := by decide +kernel
theorem d_Teller_perform_511 : decode prog_6_method_7_code 511 = .ok (.iload_n 3, 1) := by decide +kernel
theorem d_Teller_perform_512 : decode prog_6_method_7_code 512 = .ok (.invokevirtual 174, 3) := by decide +kernel
theorem d_Teller_perform_515 : decode prog_6_method_7_code 515 = .ok (.ireturn, 1) := by decide +kernel
theorem d_Teller_perform_516 : decode prog_6_method_7_code 516 = .ok (.aload_n 0, 1) := by decide +kernel
theorem d_Teller_perform_517 : decode prog_6_method_7_code 517 = .ok (.aload_n 1, 1) := by decide +kernel
theorem d_Teller_perform_518 : decode prog_6_method_7_code 518 = .ok (.iload_n 3, 1) := by decide +kernel
theorem d_Teller_perform_519 : decode prog_6_method_7_code 519 = .ok (.aload_n 0, 1) := by decide +kernel
theorem d_Teller_perform_520 : decode prog_6_method_7_code 520 = .ok (.getfield 36, 3) := by decide +kernel
theorem d_Teller_perform_523 : decode prog_6_method_7_code 523 = .ok (.aload_n 1, 1) := by decide +kernel
theorem d_Teller_perform_524 : decode prog_6_method_7_code 524 = .ok (.getfield 97, 3) := by decide +kernel
theorem d_Teller_perform_527 : decode prog_6_method_7_code 527 = .ok (.iconst 2, 1) := by decide +kernel
theorem d_Teller_perform_528 : decode prog_6_method_7_code 528 = .ok (.iadd, 1) := by decide +kernel
theorem d_Teller_perform_529 : decode prog_6_method_7_code 529 = .ok (.invokevirtual 112, 3) := by decide +kernel
theorem d_Teller_perform_532 : decode prog_6_method_7_code 532 = .ok (.invokevirtual 177, 3) := by decide +kernel
theorem d_Teller_perform_535 : decode prog_6_method_7_code 535 = .ok (.ireturn, 1) := by decide +kernel
theorem d_Teller_perform_536 : decode prog_6_method_7_code 536 = .ok (.aload_n 0, 1) := by decide +kernel
theorem d_Teller_perform_537 : decode prog_6_method_7_code 537 = .ok (.aload_n 1, 1) := by decide +kernel
theorem d_Teller_perform_538 : decode prog_6_method_7_code 538 = .ok (.iload_n 3, 1) := by decide +kernel
theorem d_Teller_perform_539 : decode prog_6_method_7_code 539 = .ok (.invokevirtual 146, 3) := by decide +kernel
theorem d_Teller_perform_542 : decode prog_6_method_7_code 542 = .ok (.ifCond .eq 31, 3) := by decide +kernel
theorem d_Teller_perform_545 : decode prog_6_method_7_code 545 = .ok (.aload_n 0, 1) := by decide +kernel
theorem d_Teller_perform_546 : decode prog_6_method_7_code 546 = .ok (.aload_n 0, 1) := by decide +kernel
theorem d_Teller_perform_547 : decode prog_6_method_7_code 547 = .ok (.getfield 36, 3) := by decide +kernel
theorem d_Teller_perform_550 : decode prog_6_method_7_code 550 = .ok (.aload_n 1, 1) := by decide +kernel
theorem d_Teller_perform_551 : decode prog_6_method_7_code 551 = .ok (.getfield 97, 3) := by decide +kernel
theorem d_Teller_perform_554 : decode prog_6_method_7_code 554 = .ok (.iconst 2, 1) := by decide +kernel
theorem d_Teller_perform_555 : decode prog_6_method_7_code 555 = .ok (.iadd, 1) := by decide +kernel
theorem d_Teller_perform_556 : decode prog_6_method_7_code 556 = .ok (.invokevirtual 130, 3) := by decide +kernel
theorem d_Teller_perform_559 : decode prog_6_method_7_code 559 = .ok (.iload_n 3, 1) := by decide +kernel
theorem d_Teller_perform_560 : decode prog_6_method_7_code 560 = .ok (.iconst 0, 1) := by decide +kernel
theorem d_Teller_perform_561 : decode prog_6_method_7_code 561 = .ok (.iconst (-1), 1) := by decide +kernel
theorem d_Teller_perform_562 : decode prog_6_method_7_code 562 = .ok (.iconst (-1), 1) := by decide +kernel
theorem d_Teller_perform_563 : decode prog_6_method_7_code 563 = .ok (.invokevirtual 55, 3) := by decide +kernel
theorem d_Teller_perform_566 : decode prog_6_method_7_code 566 = .ok (.ifCond .eq 7, 3) := by decide +kernel
theorem d_Teller_perform_569 : decode prog_6_method_7_code 569 = .ok (.iconst 1, 1) := by decide +kernel
theorem d_Teller_perform_570 : decode prog_6_method_7_code 570 = .ok (.goto 4, 3) := by decide +kernel
theorem d_Teller_perform_573 : decode prog_6_method_7_code 573 = .ok (.iconst 0, 1) := by decide +kernel
theorem d_Teller_perform_574 : decode prog_6_method_7_code 574 = .ok (.ireturn, 1) := by decide +kernel
theorem d_Teller_perform_575 : decode prog_6_method_7_code 575 = .ok (.aload_n 0, 1) := by decide +kernel
theorem d_Teller_perform_576 : decode prog_6_method_7_code 576 = .ok (.aload_n 1, 1) := by decide +kernel
theorem d_Teller_perform_577 : decode prog_6_method_7_code 577 = .ok (.iconst 1, 1) := by decide +kernel
theorem d_Teller_perform_578 : decode prog_6_method_7_code 578 = .ok (.invokevirtual 146, 3) := by decide +kernel
theorem d_Teller_perform_581 : decode prog_6_method_7_code 581 = .ok (.ifCond .eq 23, 3) := by decide +kernel
theorem d_Teller_perform_584 : decode prog_6_method_7_code 584 = .ok (.aload_n 0, 1) := by decide +kernel
theorem d_Teller_perform_585 : decode prog_6_method_7_code 585 = .ok (.aload_n 1, 1) := by decide +kernel
theorem d_Teller_perform_586 : decode prog_6_method_7_code 586 = .ok (.aload_n 0, 1) := by decide +kernel
theorem d_Teller_perform_587 : decode prog_6_method_7_code 587 = .ok (.invokevirtual 180, 3) := by decide +kernel
theorem d_Teller_perform_590 : decode prog_6_method_7_code 590 = .ok (.aload_n 0, 1) := by decide +kernel
theorem d_Teller_perform_591 : decode prog_6_method_7_code 591 = .ok (.invokevirtual 184, 3) := by decide +kernel
theorem d_Teller_perform_594 : decode prog_6_method_7_code 594 = .ok (.invokevirtual 187, 3) := by decide +kernel
theorem d_Teller_perform_597 : decode prog_6_method_7_code 597 = .ok (.ifCond .eq 7, 3) := by decide +kernel
theorem d_Teller_perform_600 : decode prog_6_method_7_code 600 = .ok (.iconst 1, 1) := by decide +kernel
theorem d_Teller_perform_601 : decode prog_6_method_7_code 601 = .ok (.goto 4, 3) := by decide +kernel
theorem d_Teller_perform_604 : decode prog_6_method_7_code 604 = .ok (.iconst 0, 1) := by decide +kernel
theorem d_Teller_perform_605 : decode prog_6_method_7_code 605 = .ok (.ireturn, 1) := by decide +kernel
theorem d_Teller_perform_606 : decode prog_6_method_7_code 606 = .ok (.aload_n 0, 1) := by decide +kernel
theorem d_Teller_perform_607 : decode prog_6_method_7_code 607 = .ok (.aload_n 1, 1) := by decide +kernel
theorem d_Teller_perform_608 : decode prog_6_method_7_code 608 = .ok (.iconst 0, 1) := by decide +kernel
theorem d_Teller_perform_609 : decode prog_6_method_7_code 609 = .ok (.iconst 0, 1) := by decide +kernel
theorem d_Teller_perform_610 : decode prog_6_method_7_code 610 = .ok (.invokevirtual 187, 3) := by decide +kernel
theorem d_Teller_perform_613 : decode prog_6_method_7_code 613 = .ok (.ireturn, 1) := by decide +kernel
theorem d_Teller_perform_614 : decode prog_6_method_7_code 614 = .ok (.aload_n 0, 1) := by decide +kernel
theorem d_Teller_perform_615 : decode prog_6_method_7_code 615 = .ok (.aload_n 1, 1) := by decide +kernel
theorem d_Teller_perform_616 : decode prog_6_method_7_code 616 = .ok (.invokevirtual 190, 3) := by decide +kernel
theorem d_Teller_perform_619 : decode prog_6_method_7_code 619 = .ok (.ifCond .eq 18, 3) := by decide +kernel
theorem d_Teller_perform_622 : decode prog_6_method_7_code 622 = .ok (.aload_n 0, 1) := by decide +kernel
theorem d_Teller_perform_623 : decode prog_6_method_7_code 623 = .ok (.aload_n 0, 1) := by decide +kernel
theorem d_Teller_perform_624 : decode prog_6_method_7_code 624 = .ok (.invokevirtual 184, 3) := by decide +kernel
theorem d_Teller_perform_627 : decode prog_6_method_7_code 627 = .ok (.invokevirtual 193, 3) := by decide +kernel
theorem d_Teller_perform_630 : decode prog_6_method_7_code 630 = .ok (.ifCond .eq 7, 3) := by decide +kernel
theorem d_Teller_perform_633 : decode prog_6_method_7_code 633 = .ok (.iconst 1, 1) := by decide +kernel
theorem d_Teller_perform_634 : decode prog_6_method_7_code 634 = .ok (.goto 4, 3) := by decide +kernel
theorem d_Teller_perform_637 : decode prog_6_method_7_code 637 = .ok (.iconst 0, 1) := by decide +kernel
theorem d_Teller_perform_638 : decode prog_6_method_7_code 638 = .ok (.ireturn, 1) := by decide +kernel
theorem d_Teller_perform_639 : decode prog_6_method_7_code 639 = .ok (.aload_n 0, 1) := by decide +kernel
theorem d_Teller_perform_640 : decode prog_6_method_7_code 640 = .ok (.aload_n 1, 1) := by decide +kernel
theorem d_Teller_perform_641 : decode prog_6_method_7_code 641 = .ok (.iload_n 3, 1) := by decide +kernel
theorem d_Teller_perform_642 : decode prog_6_method_7_code 642 = .ok (.invokevirtual 196, 3) := by decide +kernel
theorem d_Teller_perform_645 : decode prog_6_method_7_code 645 = .ok (.ireturn, 1) := by decide +kernel
theorem d_Teller_perform_646 : decode prog_6_method_7_code 646 = .ok (.aload_n 0, 1) := by decide +kernel
theorem d_Teller_perform_647 : decode prog_6_method_7_code 647 = .ok (.aload_n 1, 1) := by decide +kernel
theorem d_Teller_perform_648 : decode prog_6_method_7_code 648 = .ok (.iload_n 3, 1) := by decide +kernel
theorem d_Teller_perform_649 : decode prog_6_method_7_code 649 = .ok (.invokevirtual 199, 3) := by decide +kernel
theorem d_Teller_perform_652 : decode prog_6_method_7_code 652 = .ok (.ireturn, 1) := by decide +kernel
theorem d_Teller_perform_653 : decode prog_6_method_7_code 653 = .ok (.aload_n 0, 1) := by decide +kernel
theorem d_Teller_perform_654 : decode prog_6_method_7_code 654 = .ok (.aload_n 1, 1) := by decide +kernel
theorem d_Teller_perform_655 : decode prog_6_method_7_code 655 = .ok (.iconst 1, 1) := by decide +kernel
theorem d_Teller_perform_656 : decode prog_6_method_7_code 656 = .ok (.invokevirtual 146, 3) := by decide +kernel
theorem d_Teller_perform_659 : decode prog_6_method_7_code 659 = .ok (.ifCond .eq 34, 3) := by decide +kernel
theorem d_Teller_perform_662 : decode prog_6_method_7_code 662 = .ok (.aload_n 0, 1) := by decide +kernel
theorem d_Teller_perform_663 : decode prog_6_method_7_code 663 = .ok (.getfield 26, 3) := by decide +kernel
theorem d_Teller_perform_666 : decode prog_6_method_7_code 666 = .ok (.aload_n 0, 1) := by decide +kernel
theorem d_Teller_perform_667 : decode prog_6_method_7_code 667 = .ok (.invokevirtual 180, 3) := by decide +kernel
theorem d_Teller_perform_670 : decode prog_6_method_7_code 670 = .ok (.aload_n 0, 1) := by decide +kernel
theorem d_Teller_perform_671 : decode prog_6_method_7_code 671 = .ok (.invokevirtual 184, 3) := by decide +kernel
theorem d_Teller_perform_674 : decode prog_6_method_7_code 674 = .ok (.invokevirtual 64, 3) := by decide +kernel
theorem d_Teller_perform_677 : decode prog_6_method_7_code 677 = .ok (.ifCond .eq 16, 3) := by decide +kernel
theorem d_Teller_perform_680 : decode prog_6_method_7_code 680 = .ok (.aload_n 0, 1) := by decide +kernel
theorem d_Teller_perform_681 : decode prog_6_method_7_code 681 = .ok (.aload_n 1, 1) := by decide +kernel
theorem d_Teller_perform_682 : decode prog_6_method_7_code 682 = .ok (.iconst 1, 1) := by decide +kernel
theorem d_Teller_perform_683 : decode prog_6_method_7_code 683 = .ok (.invokevirtual 149, 3) := by decide +kernel
theorem d_Teller_perform_686 : decode prog_6_method_7_code 686 = .ok (.ifCond .eq 7, 3) := by decide +kernel
theorem d_Teller_perform_689 : decode prog_6_method_7_code 689 = .ok (.iconst 1, 1) := by decide +kernel
theorem d_Teller_perform_690 : decode prog_6_method_7_code 690 = .ok (.goto 4, 3) := by decide +kernel
theorem d_Teller_perform_693 : decode prog_6_method_7_code 693 = .ok (.iconst 0, 1) := by decide +kernel
theorem d_Teller_perform_694 : decode prog_6_method_7_code 694 = .ok (.ireturn, 1) := by decide +kernel
theorem d_Teller_perform_695 : decode prog_6_method_7_code 695 = .ok (.aload_n 0, 1) := by decide +kernel
theorem d_Teller_perform_696 : decode prog_6_method_7_code 696 = .ok (.aload_n 1, 1) := by decide +kernel
theorem d_Teller_perform_697 : decode prog_6_method_7_code 697 = .ok (.invokevirtual 202, 3) := by decide +kernel
theorem d_Teller_perform_700 : decode prog_6_method_7_code 700 = .ok (.ireturn, 1) := by decide +kernel
theorem d_Teller_perform_701 : decode prog_6_method_7_code 701 = .ok (.aload_n 0, 1) := by decide +kernel
theorem d_Teller_perform_702 : decode prog_6_method_7_code 702 = .ok (.getfield 22, 3) := by decide +kernel
theorem d_Teller_perform_705 : decode prog_6_method_7_code 705 = .ok (.invokevirtual 205, 3) := by decide +kernel
theorem d_Teller_perform_708 : decode prog_6_method_7_code 708 = .ok (.ifCond .ne 30, 3) := by decide +kernel
theorem d_Teller_perform_711 : decode prog_6_method_7_code 711 = .ok (.aload_n 0, 1) := by decide +kernel
theorem d_Teller_perform_712 : decode prog_6_method_7_code 712 = .ok (.aload_n 1, 1) := by decide +kernel
theorem d_Teller_perform_713 : decode prog_6_method_7_code 713 = .ok (.iconst 0, 1) := by decide +kernel
theorem d_Teller_perform_714 : decode prog_6_method_7_code 714 = .ok (.aload_n 0, 1) := by decide +kernel
theorem d_Teller_perform_715 : decode prog_6_method_7_code 715 = .ok (.getfield 44, 3) := by decide +kernel
theorem d_Teller_perform_718 : decode prog_6_method_7_code 718 = .ok (.aload_n 0, 1) := by decide +kernel
theorem d_Teller_perform_719 : decode prog_6_method_7_code 719 = .ok (.getfield 40, 3) := by decide +kernel
theorem d_Teller_perform_722 : decode prog_6_method_7_code 722 = .ok (.getfield 209, 3) := by decide +kernel
theorem d_Teller_perform_725 : decode prog_6_method_7_code 725 = .ok (.invokevirtual 213, 3) := by decide +kernel
theorem d_Teller_perform_728 : decode prog_6_method_7_code 728 = .ok (.invokevirtual 161, 3) := by decide +kernel
theorem d_Teller_perform_731 : decode prog_6_method_7_code 731 = .ok (.ifCond .eq 7, 3) := by decide +kernel
theorem d_Teller_perform_734 : decode prog_6_method_7_code 734 = .ok (.iconst 1, 1) := by decide +kernel
theorem d_Teller_perform_735 : decode prog_6_method_7_code 735 = .ok (.goto 4, 3) := by decide +kernel
theorem d_Teller_perform_738 : decode prog_6_method_7_code 738 = .ok (.iconst 0, 1) := by decide +kernel
theorem d_Teller_perform_739 : decode prog_6_method_7_code 739 = .ok (.ireturn, 1) := by decide +kernel
theorem d_Teller_perform_740 : decode prog_6_method_7_code 740 = .ok (.aload_n 0, 1) := by decide +kernel
theorem d_Teller_perform_741 : decode prog_6_method_7_code 741 = .ok (.aload_n 1, 1) := by decide +kernel
theorem d_Teller_perform_742 : decode prog_6_method_7_code 742 = .ok (.iload_n 3, 1) := by decide +kernel
theorem d_Teller_perform_743 : decode prog_6_method_7_code 743 = .ok (.invokevirtual 217, 3) := by decide +kernel
theorem d_Teller_perform_746 : decode prog_6_method_7_code 746 = .ok (.ireturn, 1) := by decide +kernel
theorem d_Teller_perform_747 : decode prog_6_method_7_code 747 = .ok (.aload_n 0, 1) := by decide +kernel
theorem d_Teller_perform_748 : decode prog_6_method_7_code 748 = .ok (.aload_n 1, 1) := by decide +kernel
theorem d_Teller_perform_749 : decode prog_6_method_7_code 749 = .ok (.iload_n 3, 1) := by decide +kernel
theorem d_Teller_perform_750 : decode prog_6_method_7_code 750 = .ok (.invokevirtual 220, 3) := by decide +kernel
theorem d_Teller_perform_753 : decode prog_6_method_7_code 753 = .ok (.ireturn, 1) := by decide +kernel
theorem d_Teller_perform_754 : decode prog_6_method_7_code 754 = .ok (.iconst 0, 1) := by decide +kernel
theorem d_Teller_perform_755 : decode prog_6_method_7_code 755 = .ok (.ireturn, 1) := by decide +kernel
theorem d_Teller_put_0 : decode prog_6_method_9_code 0 = .ok (.aload_n 0, 1) := by decide +kernel
theorem d_Teller_put_1 : decode prog_6_method_9_code 1 = .ok (.getfield 22, 3) := by decide +kernel
theorem d_Teller_put_4 : decode prog_6_method_9_code 4 = .ok (.iload_n 2, 1) := by decide +kernel
theorem d_Teller_put_5 : decode prog_6_method_9_code 5 = .ok (.iload_n 3, 1) := by decide +kernel
theorem d_Teller_put_6 : decode prog_6_method_9_code 6 = .ok (.invokevirtual 64, 3) := by decide +kernel
theorem d_Teller_put_9 : decode prog_6_method_9_code 9 = .ok (.ifCond .eq 15, 3) := by decide +kernel
theorem d_Teller_put_12 : decode prog_6_method_9_code 12 = .ok (.aload_n 0, 1) := by decide +kernel
theorem d_Teller_put_13 : decode prog_6_method_9_code 13 = .ok (.aload_n 1, 1) := by decide +kernel
theorem d_Teller_put_14 : decode prog_6_method_9_code 14 = .ok (.invokevirtual 115, 3) := by decide +kernel
theorem d_Teller_put_17 : decode prog_6_method_9_code 17 = .ok (.ifCond .eq 7, 3) := by decide +kernel
theorem d_Teller_put_20 : decode prog_6_method_9_code 20 = .ok (.iconst 1, 1) := by decide +kernel
theorem d_Teller_put_21 : decode prog_6_method_9_code 21 = .ok (.goto 4, 3) := by decide +kernel
theorem d_Teller_put_24 : decode prog_6_method_9_code 24 = .ok (.iconst 0, 1) := by decide +kernel
theorem d_Teller_put_25 : decode prog_6_method_9_code 25 = .ok (.ireturn, 1) := by decide +kernel
theorem d_Teller_putCopy_0 : decode prog_6_method_10_code 0 = .ok (.aload_n 0, 1) := by decide +kernel
theorem d_Teller_putCopy_1 : decode prog_6_method_10_code 1 = .ok (.aload_n 1, 1) := by decide +kernel
theorem d_Teller_putCopy_2 : decode prog_6_method_10_code 2 = .ok (.aload_n 0, 1) := by decide +kernel
theorem d_Teller_putCopy_3 : decode prog_6_method_10_code 3 = .ok (.getfield 22, 3) := by decide +kernel
theorem d_Teller_putCopy_6 : decode prog_6_method_10_code 6 = .ok (.getfield 71, 3) := by decide +kernel
theorem d_Teller_putCopy_9 : decode prog_6_method_10_code 9 = .ok (.iload_n 2, 1) := by decide +kernel
theorem d_Teller_putCopy_10 : decode prog_6_method_10_code 10 = .ok (.iaload, 1) := by decide +kernel
theorem d_Teller_putCopy_11 : decode prog_6_method_10_code 11 = .ok (.aload_n 0, 1) := by decide +kernel
theorem d_Teller_putCopy_12 : decode prog_6_method_10_code 12 = .ok (.getfield 22, 3) := by decide +kernel
theorem d_Teller_putCopy_15 : decode prog_6_method_10_code 15 = .ok (.getfield 75, 3) := by decide +kernel
theorem d_Teller_putCopy_18 : decode prog_6_method_10_code 18 = .ok (.iload_n 2, 1) := by decide +kernel
theorem d_Teller_putCopy_19 : decode prog_6_method_10_code 19 = .ok (.iaload, 1) := by decide +kernel
theorem d_Teller_putCopy_20 : decode prog_6_method_10_code 20 = .ok (.invokevirtual 119, 3) := by decide +kernel
theorem d_Teller_putCopy_23 : decode prog_6_method_10_code 23 = .ok (.ireturn, 1) := by decide +kernel
theorem d_Teller_putTruthFor_0 : decode prog_6_method_11_code 0 = .ok (.aload_n 0, 1) := by decide +kernel
theorem d_Teller_putTruthFor_1 : decode prog_6_method_11_code 1 = .ok (.getfield 22, 3) := by decide +kernel
theorem d_Teller_putTruthFor_4 : decode prog_6_method_11_code 4 = .ok (.dup, 1) := by decide +kernel
theorem d_Teller_putTruthFor_5 : decode prog_6_method_11_code 5 = .ok (.getfield 52, 3) := by decide +kernel
theorem d_Teller_putTruthFor_8 : decode prog_6_method_11_code 8 = .ok (.iload_n 2, 1) := by decide +kernel
theorem d_Teller_putTruthFor_9 : decode prog_6_method_11_code 9 = .ok (.isub, 1) := by decide +kernel
theorem d_Teller_putTruthFor_10 : decode prog_6_method_11_code 10 = .ok (.putfield 52, 3) := by decide +kernel
theorem d_Teller_putTruthFor_13 : decode prog_6_method_11_code 13 = .ok (.iload_n 3, 1) := by decide +kernel
theorem d_Teller_putTruthFor_14 : decode prog_6_method_11_code 14 = .ok (.ifCond .eq 13, 3) := by decide +kernel
theorem d_Teller_putTruthFor_17 : decode prog_6_method_11_code 17 = .ok (.aload_n 0, 1) := by decide +kernel
theorem d_Teller_putTruthFor_18 : decode prog_6_method_11_code 18 = .ok (.aload_n 1, 1) := by decide +kernel
theorem d_Teller_putTruthFor_19 : decode prog_6_method_11_code 19 = .ok (.iconst 1, 1) := by decide +kernel
theorem d_Teller_putTruthFor_20 : decode prog_6_method_11_code 20 = .ok (.iconst 1, 1) := by decide +kernel
theorem d_Teller_putTruthFor_21 : decode prog_6_method_11_code 21 = .ok (.invokevirtual 119, 3) := by decide +kernel
theorem d_Teller_putTruthFor_24 : decode prog_6_method_11_code 24 = .ok (.goto 10, 3) := by decide +kernel
theorem d_Teller_putTruthFor_27 : decode prog_6_method_11_code 27 = .ok (.aload_n 0, 1) := by decide +kernel
theorem d_Teller_putTruthFor_28 : decode prog_6_method_11_code 28 = .ok (.aload_n 1, 1) := by decide +kernel
theorem d_Teller_putTruthFor_29 : decode prog_6_method_11_code 29 = .ok (.iconst 0, 1) := by decide +kernel
theorem d_Teller_putTruthFor_30 : decode prog_6_method_11_code 30 = .ok (.iconst 0, 1) := by decide +kernel
theorem d_Teller_putTruthFor_31 : decode prog_6_method_11_code 31 = .ok (.invokevirtual 119, 3) := by decide +kernel
theorem d_Teller_putTruthFor_34 : decode prog_6_method_11_code 34 = .ok (.ireturn, 1) := by decide +kernel
theorem d_Teller_raise_0 : decode prog_6_method_31_code 0 = .ok (.aload_n 0, 1) := by decide +kernel
theorem d_Teller_raise_1 : decode prog_6_method_31_code 1 = .ok (.getfield 40, 3) := by decide +kernel
theorem d_Teller_raise_4 : decode prog_6_method_31_code 4 = .ok (.iload_n 1, 1) := by decide +kernel
theorem d_Teller_raise_5 : decode prog_6_method_31_code 5 = .ok (.invokevirtual 269, 3) := by decide +kernel
theorem d_Teller_raise_8 : decode prog_6_method_31_code 8 = .ok (.aload_n 0, 1) := by decide +kernel
theorem d_Teller_raise_9 : decode prog_6_method_31_code 9 = .ok (.getfield 49, 3) := by decide +kernel
theorem d_Teller_raise_12 : decode prog_6_method_31_code 12 = .ok (.iconst 1, 1) := by decide +kernel
theorem d_Teller_raise_13 : decode prog_6_method_31_code 13 = .ok (.isub, 1) := by decide +kernel
theorem d_Teller_raise_14 : decode prog_6_method_31_code 14 = .ok (.istore_n 2, 1) := by decide +kernel
theorem d_Teller_raise_15 : decode prog_6_method_31_code 15 = .ok (.iload_n 2, 1) := by decide +kernel
theorem d_Teller_raise_16 : decode prog_6_method_31_code 16 = .ok (.ifCond .lt 65, 3) := by decide +kernel
theorem d_Teller_raise_19 : decode prog_6_method_31_code 19 = .ok (.aload_n 0, 1) := by decide +kernel
theorem d_Teller_raise_20 : decode prog_6_method_31_code 20 = .ok (.getfield 11, 3) := by decide +kernel
theorem d_Teller_raise_23 : decode prog_6_method_31_code 23 = .ok (.iload_n 2, 1) := by decide +kernel
theorem d_Teller_raise_24 : decode prog_6_method_31_code 24 = .ok (.aaload, 1) := by decide +kernel
theorem d_Teller_raise_25 : decode prog_6_method_31_code 25 = .ok (.astore_n 3, 1) := by decide +kernel
theorem d_Teller_raise_26 : decode prog_6_method_31_code 26 = .ok (.aload_n 0, 1) := by decide +kernel
theorem d_Teller_raise_27 : decode prog_6_method_31_code 27 = .ok (.aload_n 3, 1) := by decide +kernel
theorem d_Teller_raise_28 : decode prog_6_method_31_code 28 = .ok (.invokevirtual 272, 3) := by decide +kernel
theorem d_Teller_raise_31 : decode prog_6_method_31_code 31 = .ok (.istore 4, 2) := by decide +kernel
theorem d_Teller_raise_33 : decode prog_6_method_31_code 33 = .ok (.iload 4, 2) := by decide +kernel
theorem d_Teller_raise_35 : decode prog_6_method_31_code 35 = .ok (.iconst (-1), 1) := by decide +kernel
theorem d_Teller_raise_36 : decode prog_6_method_31_code 36 = .ok (.if_icmp .eq 39, 3) := by decide +kernel
theorem d_Teller_raise_39 : decode prog_6_method_31_code 39 = .ok (.aload_n 0, 1) := by decide +kernel
theorem d_Teller_raise_40 : decode prog_6_method_31_code 40 = .ok (.iload_n 2, 1) := by decide +kernel
theorem d_Teller_raise_41 : decode prog_6_method_31_code 41 = .ok (.iconst 1, 1) := by decide +kernel
theorem d_Teller_raise_42 : decode prog_6_method_31_code 42 = .ok (.iadd, 1) := by decide +kernel
theorem d_Teller_raise_43 : decode prog_6_method_31_code 43 = .ok (.putfield 49, 3) := by decide +kernel
theorem d_Teller_raise_46 : decode prog_6_method_31_code 46 = .ok (.aload_n 0, 1) := by decide +kernel
theorem d_Teller_raise_47 : decode prog_6_method_31_code 47 = .ok (.getfield 22, 3) := by decide +kernel
theorem d_Teller_raise_50 : decode prog_6_method_31_code 50 = .ok (.aload_n 3, 1) := by decide +kernel
theorem d_Teller_raise_51 : decode prog_6_method_31_code 51 = .ok (.getfield 223, 3) := by decide +kernel
theorem d_Teller_raise_54 : decode prog_6_method_31_code 54 = .ok (.putfield 52, 3) := by decide +kernel
theorem d_Teller_raise_57 : decode prog_6_method_31_code 57 = .ok (.aload_n 0, 1) := by decide +kernel
theorem d_Teller_raise_58 : decode prog_6_method_31_code 58 = .ok (.getfield 22, 3) := by decide +kernel
theorem d_Teller_raise_61 : decode prog_6_method_31_code 61 = .ok (.iconst 3, 1) := by decide +kernel
theorem d_Teller_raise_62 : decode prog_6_method_31_code 62 = .ok (.iload_n 1, 1) := by decide +kernel
theorem d_Teller_raise_63 : decode prog_6_method_31_code 63 = .ok (.invokevirtual 64, 3) := by decide +kernel
theorem d_Teller_raise_66 : decode prog_6_method_31_code 66 = .ok (.pop, 1) := by decide +kernel
theorem d_Teller_raise_67 : decode prog_6_method_31_code 67 = .ok (.aload_n 3, 1) := by decide +kernel
theorem d_Teller_raise_68 : decode prog_6_method_31_code 68 = .ok (.iload 4, 2) := by decide +kernel
theorem d_Teller_raise_70 : decode prog_6_method_31_code 70 = .ok (.putfield 97, 3) := by decide +kernel
theorem d_Teller_raise_73 : decode prog_6_method_31_code 73 = .ok (.iconst 1, 1) := by decide +kernel
theorem d_Teller_raise_74 : decode prog_6_method_31_code 74 = .ok (.ireturn, 1) := by decide +kernel
theorem d_Teller_raise_75 : decode prog_6_method_31_code 75 = .ok (.iinc 2 (-1), 3) := by decide +kernel
theorem d_Teller_raise_78 : decode prog_6_method_31_code 78 = .ok (.goto (-63), 3) := by decide +kernel
theorem d_Teller_raise_81 : decode prog_6_method_31_code 81 = .ok (.aload_n 0, 1) := by decide +kernel
theorem d_Teller_raise_82 : decode prog_6_method_31_code 82 = .ok (.iconst 2, 1) := by decide +kernel
theorem d_Teller_raise_83 : decode prog_6_method_31_code 83 = .ok (.iconst 3, 1) := by decide +kernel
theorem d_Teller_raise_84 : decode prog_6_method_31_code 84 = .ok (.iload_n 1, 1) := by decide +kernel
theorem d_Teller_raise_85 : decode prog_6_method_31_code 85 = .ok (.invokevirtual 265, 3) := by decide +kernel
theorem d_Teller_raise_88 : decode prog_6_method_31_code 88 = .ok (.ireturn, 1) := by decide +kernel
theorem d_Teller_reachRoots_0 : decode prog_6_method_6_code 0 = .ok (.iconst 0, 1) := by decide +kernel
theorem d_Teller_reachRoots_1 : decode prog_6_method_6_code 1 = .ok (.istore_n 1, 1) := by decide +kernel
theorem d_Teller_reachRoots_2 : decode prog_6_method_6_code 2 = .ok (.iload_n 1, 1) := by decide +kernel
theorem d_Teller_reachRoots_3 : decode prog_6_method_6_code 3 = .ok (.aload_n 0, 1) := by decide +kernel
theorem d_Teller_reachRoots_4 : decode prog_6_method_6_code 4 = .ok (.getfield 22, 3) := by decide +kernel
theorem d_Teller_reachRoots_7 : decode prog_6_method_6_code 7 = .ok (.getfield 52, 3) := by decide +kernel
theorem d_Teller_reachRoots_10 : decode prog_6_method_6_code 10 = .ok (.if_icmp .ge 34, 3) := by decide +kernel
theorem d_Teller_reachRoots_13 : decode prog_6_method_6_code 13 = .ok (.aload_n 0, 1) := by decide +kernel
theorem d_Teller_reachRoots_14 : decode prog_6_method_6_code 14 = .ok (.getfield 40, 3) := by decide +kernel
theorem d_Teller_reachRoots_17 : decode prog_6_method_6_code 17 = .ok (.aload_n 0, 1) := by decide +kernel
theorem d_Teller_reachRoots_18 : decode prog_6_method_6_code 18 = .ok (.getfield 22, 3) := by decide +kernel
theorem d_Teller_reachRoots_21 : decode prog_6_method_6_code 21 = .ok (.getfield 71, 3) := by decide +kernel
theorem d_Teller_reachRoots_24 : decode prog_6_method_6_code 24 = .ok (.iload_n 1, 1) := by decide +kernel
theorem d_Teller_reachRoots_25 : decode prog_6_method_6_code 25 = .ok (.iaload, 1) := by decide +kernel
theorem d_Teller_reachRoots_26 : decode prog_6_method_6_code 26 = .ok (.aload_n 0, 1) := by decide +kernel
theorem d_Teller_reachRoots_27 : decode prog_6_method_6_code 27 = .ok (.getfield 22, 3) := by decide +kernel
theorem d_Teller_reachRoots_30 : decode prog_6_method_6_code 30 = .ok (.getfield 75, 3) := by decide +kernel
theorem d_Teller_reachRoots_33 : decode prog_6_method_6_code 33 = .ok (.iload_n 1, 1) := by decide +kernel
theorem d_Teller_reachRoots_34 : decode prog_6_method_6_code 34 = .ok (.iaload, 1) := by decide +kernel
theorem d_Teller_reachRoots_35 : decode prog_6_method_6_code 35 = .ok (.invokevirtual 78, 3) := by decide +kernel
theorem d_Teller_reachRoots_38 : decode prog_6_method_6_code 38 = .ok (.iinc 1 1, 3) := by decide +kernel
theorem d_Teller_reachRoots_41 : decode prog_6_method_6_code 41 = .ok (.goto (-39), 3) := by decide +kernel
theorem d_Teller_reachRoots_44 : decode prog_6_method_6_code 44 = .ok (.iconst 0, 1) := by decide +kernel
theorem d_Teller_reachRoots_45 : decode prog_6_method_6_code 45 = .ok (.istore_n 1, 1) := by decide +kernel
theorem d_Teller_reachRoots_46 : decode prog_6_method_6_code 46 = .ok (.iload_n 1, 1) := by decide +kernel
theorem d_Teller_reachRoots_47 : decode prog_6_method_6_code 47 = .ok (.aload_n 0, 1) := by decide +kernel
theorem d_Teller_reachRoots_48 : decode prog_6_method_6_code 48 = .ok (.getfield 49, 3) := by decide +kernel
theorem d_Teller_reachRoots_51 : decode prog_6_method_6_code 51 = .ok (.if_icmp .ge 41, 3) := by decide +kernel
theorem d_Teller_reachRoots_54 : decode prog_6_method_6_code 54 = .ok (.aload_n 0, 1) := by decide +kernel
theorem d_Teller_reachRoots_55 : decode prog_6_method_6_code 55 = .ok (.getfield 40, 3) := by decide +kernel
theorem d_Teller_reachRoots_58 : decode prog_6_method_6_code 58 = .ok (.aload_n 0, 1) := by decide +kernel
theorem d_Teller_reachRoots_59 : decode prog_6_method_6_code 59 = .ok (.getfield 11, 3) := by decide +kernel
theorem d_Teller_reachRoots_62 : decode prog_6_method_6_code 62 = .ok (.iload_n 1, 1) := by decide +kernel
theorem d_Teller_reachRoots_63 : decode prog_6_method_6_code 63 = .ok (.aaload, 1) := by decide +kernel
theorem d_Teller_reachRoots_64 : decode prog_6_method_6_code 64 = .ok (.getfield 84, 3) := by decide +kernel
theorem d_Teller_reachRoots_67 : decode prog_6_method_6_code 67 = .ok (.invokevirtual 87, 3) := by decide +kernel
theorem d_Teller_reachRoots_70 : decode prog_6_method_6_code 70 = .ok (.aload_n 0, 1) := by decide +kernel
theorem d_Teller_reachRoots_71 : decode prog_6_method_6_code 71 = .ok (.getfield 40, 3) := by decide +kernel
theorem d_Teller_reachRoots_74 : decode prog_6_method_6_code 74 = .ok (.aload_n 0, 1) := by decide +kernel
theorem d_Teller_reachRoots_75 : decode prog_6_method_6_code 75 = .ok (.getfield 11, 3) := by decide +kernel
theorem d_Teller_reachRoots_78 : decode prog_6_method_6_code 78 = .ok (.iload_n 1, 1) := by decide +kernel
theorem d_Teller_reachRoots_79 : decode prog_6_method_6_code 79 = .ok (.aaload, 1) := by decide +kernel
theorem d_Teller_reachRoots_80 : decode prog_6_method_6_code 80 = .ok (.getfield 90, 3) := by decide +kernel
theorem d_Teller_reachRoots_83 : decode prog_6_method_6_code 83 = .ok (.invokevirtual 87, 3) := by decide +kernel
theorem d_Teller_reachRoots_86 : decode prog_6_method_6_code 86 = .ok (.iinc 1 1, 3) := by decide +kernel
theorem d_Teller_reachRoots_89 : decode prog_6_method_6_code 89 = .ok (.goto (-43), 3) := by decide +kernel
theorem d_Teller_reachRoots_92 : decode prog_6_method_6_code 92 = .ok (.aload_n 0, 1) := by decide +kernel
theorem d_Teller_reachRoots_93 : decode prog_6_method_6_code 93 = .ok (.getfield 29, 3) := by decide +kernel
theorem d_Teller_reachRoots_96 : decode prog_6_method_6_code 96 = .ok (.getfield 52, 3) := by decide +kernel
theorem d_Teller_reachRoots_99 : decode prog_6_method_6_code 99 = .ok (.ifCond .le 28, 3) := by decide +kernel
theorem d_Teller_reachRoots_102 : decode prog_6_method_6_code 102 = .ok (.aload_n 0, 1) := by decide +kernel
theorem d_Teller_reachRoots_103 : decode prog_6_method_6_code 103 = .ok (.getfield 40, 3) := by decide +kernel
theorem d_Teller_reachRoots_106 : decode prog_6_method_6_code 106 = .ok (.aload_n 0, 1) := by decide +kernel
theorem d_Teller_reachRoots_107 : decode prog_6_method_6_code 107 = .ok (.getfield 29, 3) := by decide +kernel
theorem d_Teller_reachRoots_110 : decode prog_6_method_6_code 110 = .ok (.getfield 71, 3) := by decide +kernel
theorem d_Teller_reachRoots_113 : decode prog_6_method_6_code 113 = .ok (.iconst 0, 1) := by decide +kernel
theorem d_Teller_reachRoots_114 : decode prog_6_method_6_code 114 = .ok (.iaload, 1) := by decide +kernel
theorem d_Teller_reachRoots_115 : decode prog_6_method_6_code 115 = .ok (.aload_n 0, 1) := by decide +kernel
theorem d_Teller_reachRoots_116 : decode prog_6_method_6_code 116 = .ok (.getfield 29, 3) := by decide +kernel
theorem d_Teller_reachRoots_119 : decode prog_6_method_6_code 119 = .ok (.getfield 75, 3) := by decide +kernel
theorem d_Teller_reachRoots_122 : decode prog_6_method_6_code 122 = .ok (.iconst 0, 1) := by decide +kernel
theorem d_Teller_reachRoots_123 : decode prog_6_method_6_code 123 = .ok (.iaload, 1) := by decide +kernel
theorem d_Teller_reachRoots_124 : decode prog_6_method_6_code 124 = .ok (.invokevirtual 78, 3) := by decide +kernel
theorem d_Teller_reachRoots_127 : decode prog_6_method_6_code 127 = .ok (.return_, 1) := by decide +kernel
theorem d_Teller_save_0 : decode prog_6_method_36_code 0 = .ok (.iload_n 2, 1) := by decide +kernel
theorem d_Teller_save_1 : decode prog_6_method_36_code 1 = .ok (.ifCond .lt 8, 3) := by decide +kernel
theorem d_Teller_save_4 : decode prog_6_method_36_code 4 = .ok (.iload_n 2, 1) := by decide +kernel
theorem d_Teller_save_5 : decode prog_6_method_36_code 5 = .ok (.iconst 2, 1) := by decide +kernel
theorem d_Teller_save_6 : decode prog_6_method_36_code 6 = .ok (.if_icmp .lt 5, 3) := by decide +kernel
theorem d_Teller_save_9 : decode prog_6_method_36_code 9 = .ok (.iconst 0, 1) := by decide +kernel
theorem d_Teller_save_10 : decode prog_6_method_36_code 10 = .ok (.ireturn, 1) := by decide +kernel
theorem d_Teller_save_11 : decode prog_6_method_36_code 11 = .ok (.aload_n 0, 1) := by decide +kernel
theorem d_Teller_save_12 : decode prog_6_method_36_code 12 = .ok (.getfield 44, 3) := by decide +kernel
theorem d_Teller_save_15 : decode prog_6_method_36_code 15 = .ok (.iload_n 2, 1) := by decide +kernel
theorem d_Teller_save_16 : decode prog_6_method_36_code 16 = .ok (.aload_n 0, 1) := by decide +kernel
theorem d_Teller_save_17 : decode prog_6_method_36_code 17 = .ok (.getfield 40, 3) := by decide +kernel
theorem d_Teller_save_20 : decode prog_6_method_36_code 20 = .ok (.getfield 209, 3) := by decide +kernel
theorem d_Teller_save_23 : decode prog_6_method_36_code 23 = .ok (.invokevirtual 287, 3) := by decide +kernel
theorem d_Teller_save_26 : decode prog_6_method_36_code 26 = .ok (.aload_n 0, 1) := by decide +kernel
theorem d_Teller_save_27 : decode prog_6_method_36_code 27 = .ok (.aload_n 1, 1) := by decide +kernel
theorem d_Teller_save_28 : decode prog_6_method_36_code 28 = .ok (.invokevirtual 115, 3) := by decide +kernel
theorem d_Teller_save_31 : decode prog_6_method_36_code 31 = .ok (.ireturn, 1) := by decide +kernel
theorem d_Teller_setOwn_0 : decode prog_6_method_29_code 0 = .ok (.iload_n 2, 1) := by decide +kernel
theorem d_Teller_setOwn_1 : decode prog_6_method_29_code 1 = .ok (.invokestatic 229, 3) := by decide +kernel
theorem d_Teller_setOwn_4 : decode prog_6_method_29_code 4 = .ok (.ifCond .eq 20, 3) := by decide +kernel
theorem d_Teller_setOwn_7 : decode prog_6_method_29_code 7 = .ok (.aload_n 0, 1) := by decide +kernel
theorem d_Teller_setOwn_8 : decode prog_6_method_29_code 8 = .ok (.aload_n 1, 1) := by decide +kernel
theorem d_Teller_setOwn_9 : decode prog_6_method_29_code 9 = .ok (.invokevirtual 190, 3) := by decide +kernel
theorem d_Teller_setOwn_12 : decode prog_6_method_29_code 12 = .ok (.ifCond .eq 12, 3) := by decide +kernel
theorem d_Teller_setOwn_15 : decode prog_6_method_29_code 15 = .ok (.aload_n 0, 1) := by decide +kernel
theorem d_Teller_setOwn_16 : decode prog_6_method_29_code 16 = .ok (.aload_n 1, 1) := by decide +kernel
theorem d_Teller_setOwn_17 : decode prog_6_method_29_code 17 = .ok (.iconst 2, 1) := by decide +kernel
theorem d_Teller_setOwn_18 : decode prog_6_method_29_code 18 = .ok (.invokevirtual 146, 3) := by decide +kernel
theorem d_Teller_setOwn_21 : decode prog_6_method_29_code 21 = .ok (.ifCond .ne 5, 3) := by decide +kernel
theorem d_Teller_setOwn_24 : decode prog_6_method_29_code 24 = .ok (.iconst 0, 1) := by decide +kernel
theorem d_Teller_setOwn_25 : decode prog_6_method_29_code 25 = .ok (.ireturn, 1) := by decide +kernel
theorem d_Teller_setOwn_26 : decode prog_6_method_29_code 26 = .ok (.aload_n 0, 1) := by decide +kernel
theorem d_Teller_setOwn_27 : decode prog_6_method_29_code 27 = .ok (.getfield 22, 3) := by decide +kernel
theorem d_Teller_setOwn_30 : decode prog_6_method_29_code 30 = .ok (.getfield 52, 3) := by decide +kernel
theorem d_Teller_setOwn_33 : decode prog_6_method_29_code 33 = .ok (.iconst 2, 1) := by decide +kernel
theorem d_Teller_setOwn_34 : decode prog_6_method_29_code 34 = .ok (.isub, 1) := by decide +kernel
theorem d_Teller_setOwn_35 : decode prog_6_method_29_code 35 = .ok (.istore_n 3, 1) := by decide +kernel
theorem d_Teller_setOwn_36 : decode prog_6_method_29_code 36 = .ok (.aload_n 0, 1) := by decide +kernel
theorem d_Teller_setOwn_37 : decode prog_6_method_29_code 37 = .ok (.getfield 40, 3) := by decide +kernel
theorem d_Teller_setOwn_40 : decode prog_6_method_29_code 40 = .ok (.aload_n 0, 1) := by decide +kernel
theorem d_Teller_setOwn_41 : decode prog_6_method_29_code 41 = .ok (.invokevirtual 184, 3) := by decide +kernel
theorem d_Teller_setOwn_44 : decode prog_6_method_29_code 44 = .ok (.iload_n 2, 1) := by decide +kernel
theorem d_Teller_setOwn_45 : decode prog_6_method_29_code 45 = .ok (.aload_n 0, 1) := by decide +kernel
theorem d_Teller_setOwn_46 : decode prog_6_method_29_code 46 = .ok (.getfield 22, 3) := by decide +kernel
theorem d_Teller_setOwn_49 : decode prog_6_method_29_code 49 = .ok (.getfield 71, 3) := by decide +kernel
theorem d_Teller_setOwn_52 : decode prog_6_method_29_code 52 = .ok (.iload_n 3, 1) := by decide +kernel
theorem d_Teller_setOwn_53 : decode prog_6_method_29_code 53 = .ok (.iaload, 1) := by decide +kernel
theorem d_Teller_setOwn_54 : decode prog_6_method_29_code 54 = .ok (.aload_n 0, 1) := by decide +kernel
theorem d_Teller_setOwn_55 : decode prog_6_method_29_code 55 = .ok (.getfield 22, 3) := by decide +kernel
theorem d_Teller_setOwn_58 : decode prog_6_method_29_code 58 = .ok (.getfield 75, 3) := by decide +kernel
theorem d_Teller_setOwn_61 : decode prog_6_method_29_code 61 = .ok (.iload_n 3, 1) := by decide +kernel
theorem d_Teller_setOwn_62 : decode prog_6_method_29_code 62 = .ok (.iaload, 1) := by decide +kernel
theorem d_Teller_setOwn_63 : decode prog_6_method_29_code 63 = .ok (.invokevirtual 262, 3) := by decide +kernel
theorem d_Teller_setOwn_66 : decode prog_6_method_29_code 66 = .ok (.aload_n 0, 1) := by decide +kernel
theorem d_Teller_setOwn_67 : decode prog_6_method_29_code 67 = .ok (.aload_n 1, 1) := by decide +kernel
theorem d_Teller_setOwn_68 : decode prog_6_method_29_code 68 = .ok (.iconst 2, 1) := by decide +kernel
theorem d_Teller_setOwn_69 : decode prog_6_method_29_code 69 = .ok (.invokevirtual 149, 3) := by decide +kernel
theorem d_Teller_setOwn_72 : decode prog_6_method_29_code 72 = .ok (.ireturn, 1) := by decide +kernel
theorem d_Teller_setPoint_0 : decode prog_6_method_35_code 0 = .ok (.aload_n 0, 1) := by decide +kernel
theorem d_Teller_setPoint_1 : decode prog_6_method_35_code 1 = .ok (.getfield 44, 3) := by decide +kernel
theorem d_Teller_setPoint_4 : decode prog_6_method_35_code 4 = .ok (.aload_n 0, 1) := by decide +kernel
theorem d_Teller_setPoint_5 : decode prog_6_method_35_code 5 = .ok (.getfield 40, 3) := by decide +kernel
theorem d_Teller_setPoint_8 : decode prog_6_method_35_code 8 = .ok (.getfield 209, 3) := by decide +kernel
theorem d_Teller_setPoint_11 : decode prog_6_method_35_code 11 = .ok (.invokevirtual 284, 3) := by decide +kernel
theorem d_Teller_setPoint_14 : decode prog_6_method_35_code 14 = .ok (.aload_n 0, 1) := by decide +kernel
theorem d_Teller_setPoint_15 : decode prog_6_method_35_code 15 = .ok (.aload_n 1, 1) := by decide +kernel
theorem d_Teller_setPoint_16 : decode prog_6_method_35_code 16 = .ok (.invokevirtual 115, 3) := by decide +kernel
theorem d_Teller_setPoint_19 : decode prog_6_method_35_code 19 = .ok (.ireturn, 1) := by decide +kernel
theorem d_Teller_start_0 : decode prog_6_method_3_code 0 = .ok (.aload_n 0, 1) := by decide +kernel
theorem d_Teller_start_1 : decode prog_6_method_3_code 1 = .ok (.iconst 0, 1) := by decide +kernel
theorem d_Teller_start_2 : decode prog_6_method_3_code 2 = .ok (.putfield 49, 3) := by decide +kernel
theorem d_Teller_start_5 : decode prog_6_method_3_code 5 = .ok (.aload_n 0, 1) := by decide +kernel
theorem d_Teller_start_6 : decode prog_6_method_3_code 6 = .ok (.getfield 22, 3) := by decide +kernel
theorem d_Teller_start_9 : decode prog_6_method_3_code 9 = .ok (.iconst 0, 1) := by decide +kernel
theorem d_Teller_start_10 : decode prog_6_method_3_code 10 = .ok (.putfield 52, 3) := by decide +kernel
theorem d_Teller_start_13 : decode prog_6_method_3_code 13 = .ok (.aload_n 0, 1) := by decide +kernel
theorem d_Teller_start_14 : decode prog_6_method_3_code 14 = .ok (.getfield 26, 3) := by decide +kernel
theorem d_Teller_start_17 : decode prog_6_method_3_code 17 = .ok (.iconst 0, 1) := by decide +kernel
theorem d_Teller_start_18 : decode prog_6_method_3_code 18 = .ok (.putfield 52, 3) := by decide +kernel
theorem d_Teller_start_21 : decode prog_6_method_3_code 21 = .ok (.aload_n 0, 1) := by decide +kernel
theorem d_Teller_start_22 : decode prog_6_method_3_code 22 = .ok (.getfield 29, 3) := by decide +kernel
theorem d_Teller_start_25 : decode prog_6_method_3_code 25 = .ok (.iconst 0, 1) := by decide +kernel
theorem d_Teller_start_26 : decode prog_6_method_3_code 26 = .ok (.putfield 52, 3) := by decide +kernel
theorem d_Teller_start_29 : decode prog_6_method_3_code 29 = .ok (.aload_n 0, 1) := by decide +kernel
theorem d_Teller_start_30 : decode prog_6_method_3_code 30 = .ok (.iconst 0, 1) := by decide +kernel
theorem d_Teller_start_31 : decode prog_6_method_3_code 31 = .ok (.putfield 32, 3) := by decide +kernel
theorem d_Teller_start_34 : decode prog_6_method_3_code 34 = .ok (.aload_n 0, 1) := by decide +kernel
theorem d_Teller_start_35 : decode prog_6_method_3_code 35 = .ok (.iload_n 1, 1) := by decide +kernel
theorem d_Teller_start_36 : decode prog_6_method_3_code 36 = .ok (.iconst 0, 1) := by decide +kernel
theorem d_Teller_start_37 : decode prog_6_method_3_code 37 = .ok (.iconst 0, 1) := by decide +kernel
theorem d_Teller_start_38 : decode prog_6_method_3_code 38 = .ok (.iload_n 2, 1) := by decide +kernel
theorem d_Teller_start_39 : decode prog_6_method_3_code 39 = .ok (.iload_n 3, 1) := by decide +kernel
theorem d_Teller_start_40 : decode prog_6_method_3_code 40 = .ok (.invokevirtual 55, 3) := by decide +kernel
theorem d_Teller_start_43 : decode prog_6_method_3_code 43 = .ok (.pop, 1) := by decide +kernel
theorem d_Teller_start_44 : decode prog_6_method_3_code 44 = .ok (.return_, 1) := by decide +kernel
theorem d_Teller_take_0 : decode prog_6_method_13_code 0 = .ok (.aload_n 0, 1) := by decide +kernel
theorem d_Teller_take_1 : decode prog_6_method_13_code 1 = .ok (.getfield 22, 3) := by decide +kernel
theorem d_Teller_take_4 : decode prog_6_method_13_code 4 = .ok (.dup, 1) := by decide +kernel
theorem d_Teller_take_5 : decode prog_6_method_13_code 5 = .ok (.getfield 52, 3) := by decide +kernel
theorem d_Teller_take_8 : decode prog_6_method_13_code 8 = .ok (.iload_n 2, 1) := by decide +kernel
theorem d_Teller_take_9 : decode prog_6_method_13_code 9 = .ok (.isub, 1) := by decide +kernel
theorem d_Teller_take_10 : decode prog_6_method_13_code 10 = .ok (.putfield 52, 3) := by decide +kernel
theorem d_Teller_take_13 : decode prog_6_method_13_code 13 = .ok (.aload_n 0, 1) := by decide +kernel
theorem d_Teller_take_14 : decode prog_6_method_13_code 14 = .ok (.aload_n 1, 1) := by decide +kernel
theorem d_Teller_take_15 : decode prog_6_method_13_code 15 = .ok (.invokevirtual 115, 3) := by decide +kernel
theorem d_Teller_take_18 : decode prog_6_method_13_code 18 = .ok (.ireturn, 1) := by decide +kernel
theorem d_Teller_takeIntoLocal_0 : decode prog_6_method_19_code 0 = .ok (.aload_n 0, 1) := by decide +kernel
theorem d_Teller_takeIntoLocal_1 : decode prog_6_method_19_code 1 = .ok (.aload_n 1, 1) := by decide +kernel
theorem d_Teller_takeIntoLocal_2 : decode prog_6_method_19_code 2 = .ok (.iload_n 2, 1) := by decide +kernel
theorem d_Teller_takeIntoLocal_3 : decode prog_6_method_19_code 3 = .ok (.invokevirtual 133, 3) := by decide +kernel
theorem d_Teller_takeIntoLocal_6 : decode prog_6_method_19_code 6 = .ok (.ifCond .eq 12, 3) := by decide +kernel
theorem d_Teller_takeIntoLocal_9 : decode prog_6_method_19_code 9 = .ok (.aload_n 0, 1) := by decide +kernel
theorem d_Teller_takeIntoLocal_10 : decode prog_6_method_19_code 10 = .ok (.aload_n 1, 1) := by decide +kernel
theorem d_Teller_takeIntoLocal_11 : decode prog_6_method_19_code 11 = .ok (.iconst 1, 1) := by decide +kernel
theorem d_Teller_takeIntoLocal_12 : decode prog_6_method_19_code 12 = .ok (.invokevirtual 146, 3) := by decide +kernel
theorem d_Teller_takeIntoLocal_15 : decode prog_6_method_19_code 15 = .ok (.ifCond .ne 5, 3) := by decide +kernel
theorem d_Teller_takeIntoLocal_18 : decode prog_6_method_19_code 18 = .ok (.iconst 0, 1) := by decide +kernel
theorem d_Teller_takeIntoLocal_19 : decode prog_6_method_19_code 19 = .ok (.ireturn, 1) := by decide +kernel
theorem d_Teller_takeIntoLocal_20 : decode prog_6_method_19_code 20 = .ok (.aload_n 0, 1) := by decide +kernel
theorem d_Teller_takeIntoLocal_21 : decode prog_6_method_19_code 21 = .ok (.getfield 22, 3) := by decide +kernel
theorem d_Teller_takeIntoLocal_24 : decode prog_6_method_19_code 24 = .ok (.getfield 71, 3) := by decide +kernel
theorem d_Teller_takeIntoLocal_27 : decode prog_6_method_19_code 27 = .ok (.aload_n 1, 1) := by decide +kernel
theorem d_Teller_takeIntoLocal_28 : decode prog_6_method_19_code 28 = .ok (.getfield 137, 3) := by decide +kernel
theorem d_Teller_takeIntoLocal_31 : decode prog_6_method_19_code 31 = .ok (.iload_n 2, 1) := by decide +kernel
theorem d_Teller_takeIntoLocal_32 : decode prog_6_method_19_code 32 = .ok (.iadd, 1) := by decide +kernel
theorem d_Teller_takeIntoLocal_33 : decode prog_6_method_19_code 33 = .ok (.aload_n 0, 1) := by decide +kernel
theorem d_Teller_takeIntoLocal_34 : decode prog_6_method_19_code 34 = .ok (.invokevirtual 180, 3) := by decide +kernel
theorem d_Teller_takeIntoLocal_37 : decode prog_6_method_19_code 37 = .ok (.iastore, 1) := by decide +kernel
theorem d_Teller_takeIntoLocal_38 : decode prog_6_method_19_code 38 = .ok (.aload_n 0, 1) := by decide +kernel
theorem d_Teller_takeIntoLocal_39 : decode prog_6_method_19_code 39 = .ok (.getfield 22, 3) := by decide +kernel
theorem d_Teller_takeIntoLocal_42 : decode prog_6_method_19_code 42 = .ok (.getfield 75, 3) := by decide +kernel
theorem d_Teller_takeIntoLocal_45 : decode prog_6_method_19_code 45 = .ok (.aload_n 1, 1) := by decide +kernel
theorem d_Teller_takeIntoLocal_46 : decode prog_6_method_19_code 46 = .ok (.getfield 137, 3) := by decide +kernel
theorem d_Teller_takeIntoLocal_49 : decode prog_6_method_19_code 49 = .ok (.iload_n 2, 1) := by decide +kernel
theorem d_Teller_takeIntoLocal_50 : decode prog_6_method_19_code 50 = .ok (.iadd, 1) := by decide +kernel
theorem d_Teller_takeIntoLocal_51 : decode prog_6_method_19_code 51 = .ok (.aload_n 0, 1) := by decide +kernel
theorem d_Teller_takeIntoLocal_52 : decode prog_6_method_19_code 52 = .ok (.invokevirtual 184, 3) := by decide +kernel
theorem d_Teller_takeIntoLocal_55 : decode prog_6_method_19_code 55 = .ok (.iastore, 1) := by decide +kernel
theorem d_Teller_takeIntoLocal_56 : decode prog_6_method_19_code 56 = .ok (.aload_n 0, 1) := by decide +kernel
theorem d_Teller_takeIntoLocal_57 : decode prog_6_method_19_code 57 = .ok (.aload_n 1, 1) := by decide +kernel
theorem d_Teller_takeIntoLocal_58 : decode prog_6_method_19_code 58 = .ok (.iconst 1, 1) := by decide +kernel
theorem d_Teller_takeIntoLocal_59 : decode prog_6_method_19_code 59 = .ok (.invokevirtual 149, 3) := by decide +kernel
theorem d_Teller_takeIntoLocal_62 : decode prog_6_method_19_code 62 = .ok (.ireturn, 1) := by decide +kernel
theorem d_Teller_testOf_0 : decode prog_6_method_34_code 0 = .ok (.aload_n 0, 1) := by decide +kernel
theorem d_Teller_testOf_1 : decode prog_6_method_34_code 1 = .ok (.getfield 40, 3) := by decide +kernel
theorem d_Teller_testOf_4 : decode prog_6_method_34_code 4 = .ok (.iload_n 2, 1) := by decide +kernel
theorem d_Teller_testOf_5 : decode prog_6_method_34_code 5 = .ok (.invokevirtual 126, 3) := by decide +kernel
theorem d_Teller_testOf_8 : decode prog_6_method_34_code 8 = .ok (.ifCond .eq 53, 3) := by decide +kernel
theorem d_Teller_testOf_11 : decode prog_6_method_34_code 11 = .ok (.aload_n 0, 1) := by decide +kernel
theorem d_Teller_testOf_12 : decode prog_6_method_34_code 12 = .ok (.aload_n 1, 1) := by decide +kernel
theorem d_Teller_testOf_13 : decode prog_6_method_34_code 13 = .ok (.iconst 1, 1) := by decide +kernel
theorem d_Teller_testOf_14 : decode prog_6_method_34_code 14 = .ok (.invokevirtual 146, 3) := by decide +kernel
theorem d_Teller_testOf_17 : decode prog_6_method_34_code 17 = .ok (.ifCond .eq 44, 3) := by decide +kernel
theorem d_Teller_testOf_20 : decode prog_6_method_34_code 20 = .ok (.aload_n 0, 1) := by decide +kernel
theorem d_Teller_testOf_21 : decode prog_6_method_34_code 21 = .ok (.aload_n 1, 1) := by decide +kernel
theorem d_Teller_testOf_22 : decode prog_6_method_34_code 22 = .ok (.iconst 1, 1) := by decide +kernel
theorem d_Teller_testOf_23 : decode prog_6_method_34_code 23 = .ok (.aload_n 0, 1) := by decide +kernel
theorem d_Teller_testOf_24 : decode prog_6_method_34_code 24 = .ok (.invokevirtual 180, 3) := by decide +kernel
theorem d_Teller_testOf_27 : decode prog_6_method_34_code 27 = .ok (.iconst 3, 1) := by decide +kernel
theorem d_Teller_testOf_28 : decode prog_6_method_34_code 28 = .ok (.if_icmp .ne 22, 3) := by decide +kernel
theorem d_Teller_testOf_31 : decode prog_6_method_34_code 31 = .ok (.aload_n 0, 1) := by decide +kernel
theorem d_Teller_testOf_32 : decode prog_6_method_34_code 32 = .ok (.getfield 40, 3) := by decide +kernel
theorem d_Teller_testOf_35 : decode prog_6_method_34_code 35 = .ok (.aload_n 0, 1) := by decide +kernel
theorem d_Teller_testOf_36 : decode prog_6_method_34_code 36 = .ok (.invokevirtual 184, 3) := by decide +kernel
theorem d_Teller_testOf_39 : decode prog_6_method_34_code 39 = .ok (.iload_n 2, 1) := by decide +kernel
theorem d_Teller_testOf_40 : decode prog_6_method_34_code 40 = .ok (.invokevirtual 281, 3) := by decide +kernel
theorem d_Teller_testOf_43 : decode prog_6_method_34_code 43 = .ok (.ifCond .eq 7, 3) := by decide +kernel
theorem d_Teller_testOf_46 : decode prog_6_method_34_code 46 = .ok (.iconst 1, 1) := by decide +kernel
theorem d_Teller_testOf_47 : decode prog_6_method_34_code 47 = .ok (.goto 4, 3) := by decide +kernel
theorem d_Teller_testOf_50 : decode prog_6_method_34_code 50 = .ok (.iconst 0, 1) := by decide +kernel
theorem d_Teller_testOf_51 : decode prog_6_method_34_code 51 = .ok (.invokevirtual 161, 3) := by decide +kernel
theorem d_Teller_testOf_54 : decode prog_6_method_34_code 54 = .ok (.ifCond .eq 7, 3) := by decide +kernel
theorem d_Teller_testOf_57 : decode prog_6_method_34_code 57 = .ok (.iconst 1, 1) := by decide +kernel
theorem d_Teller_testOf_58 : decode prog_6_method_34_code 58 = .ok (.goto 4, 3) := by decide +kernel
theorem d_Teller_testOf_61 : decode prog_6_method_34_code 61 = .ok (.iconst 0, 1) := by decide +kernel
theorem d_Teller_testOf_62 : decode prog_6_method_34_code 62 = .ok (.ireturn, 1) := by decide +kernel
theorem d_Teller_top_0 : decode prog_6_method_2_code 0 = .ok (.aload_n 0, 1) := by decide +kernel
theorem d_Teller_top_1 : decode prog_6_method_2_code 1 = .ok (.getfield 11, 3) := by decide +kernel
theorem d_Teller_top_4 : decode prog_6_method_2_code 4 = .ok (.aload_n 0, 1) := by decide +kernel
theorem d_Teller_top_5 : decode prog_6_method_2_code 5 = .ok (.getfield 49, 3) := by decide +kernel
theorem d_Teller_top_8 : decode prog_6_method_2_code 8 = .ok (.ifCond .le 12, 3) := by decide +kernel
theorem d_Teller_top_11 : decode prog_6_method_2_code 11 = .ok (.aload_n 0, 1) := by decide +kernel
theorem d_Teller_top_12 : decode prog_6_method_2_code 12 = .ok (.getfield 49, 3) := by decide +kernel
theorem d_Teller_top_15 : decode prog_6_method_2_code 15 = .ok (.iconst 1, 1) := by decide +kernel
theorem d_Teller_top_16 : decode prog_6_method_2_code 16 = .ok (.isub, 1) := by decide +kernel
theorem d_Teller_top_17 : decode prog_6_method_2_code 17 = .ok (.goto 4, 3) := by decide +kernel
theorem d_Teller_top_20 : decode prog_6_method_2_code 20 = .ok (.iconst 0, 1) := by decide +kernel
theorem d_Teller_top_21 : decode prog_6_method_2_code 21 = .ok (.aaload, 1) := by decide +kernel
theorem d_Teller_top_22 : decode prog_6_method_2_code 22 = .ok (.areturn, 1) := by decide +kernel
theorem d_Teller_topInt_0 : decode prog_6_method_15_code 0 = .ok (.aload_n 0, 1) := by decide +kernel
theorem d_Teller_topInt_1 : decode prog_6_method_15_code 1 = .ok (.getfield 22, 3) := by decide +kernel
theorem d_Teller_topInt_4 : decode prog_6_method_15_code 4 = .ok (.getfield 75, 3) := by decide +kernel
theorem d_Teller_topInt_7 : decode prog_6_method_15_code 7 = .ok (.aload_n 0, 1) := by decide +kernel
theorem d_Teller_topInt_8 : decode prog_6_method_15_code 8 = .ok (.getfield 22, 3) := by decide +kernel
theorem d_Teller_topInt_11 : decode prog_6_method_15_code 11 = .ok (.getfield 52, 3) := by decide +kernel
theorem d_Teller_topInt_14 : decode prog_6_method_15_code 14 = .ok (.iconst 1, 1) := by decide +kernel
theorem d_Teller_topInt_15 : decode prog_6_method_15_code 15 = .ok (.isub, 1) := by decide +kernel
theorem d_Teller_topInt_16 : decode prog_6_method_15_code 16 = .ok (.iaload, 1) := by decide +kernel
theorem d_Teller_topInt_17 : decode prog_6_method_15_code 17 = .ok (.ireturn, 1) := by decide +kernel
theorem d_Teller_topKind_0 : decode prog_6_method_14_code 0 = .ok (.aload_n 0, 1) := by decide +kernel
theorem d_Teller_topKind_1 : decode prog_6_method_14_code 1 = .ok (.getfield 22, 3) := by decide +kernel
theorem d_Teller_topKind_4 : decode prog_6_method_14_code 4 = .ok (.getfield 71, 3) := by decide +kernel
theorem d_Teller_topKind_7 : decode prog_6_method_14_code 7 = .ok (.aload_n 0, 1) := by decide +kernel
theorem d_Teller_topKind_8 : decode prog_6_method_14_code 8 = .ok (.getfield 22, 3) := by decide +kernel
theorem d_Teller_topKind_11 : decode prog_6_method_14_code 11 = .ok (.getfield 52, 3) := by decide +kernel
theorem d_Teller_topKind_14 : decode prog_6_method_14_code 14 = .ok (.iconst 1, 1) := by decide +kernel
theorem d_Teller_topKind_15 : decode prog_6_method_14_code 15 = .ok (.isub, 1) := by decide +kernel
theorem d_Teller_topKind_16 : decode prog_6_method_14_code 16 = .ok (.iaload, 1) := by decide +kernel
theorem d_Teller_topKind_17 : decode prog_6_method_14_code 17 = .ok (.ireturn, 1) := by decide +kernel
theorem d_Values_init_0 : decode prog_7_method_1_code 0 = .ok (.aload_n 0, 1) := by decide +kernel
theorem d_Values_init_1 : decode prog_7_method_1_code 1 = .ok (.invokespecial 1, 3) := by decide +kernel
theorem d_Values_init_4 : decode prog_7_method_1_code 4 = .ok (.aload_n 0, 1) := by decide +kernel
theorem d_Values_init_5 : decode prog_7_method_1_code 5 = .ok (.iload_n 1, 1) := by decide +kernel
theorem d_Values_init_6 : decode prog_7_method_1_code 6 = .ok (.newarray .int, 2) := by decide +kernel
theorem d_Values_init_8 : decode prog_7_method_1_code 8 = .ok (.putfield 7, 3) := by decide +kernel
theorem d_Values_init_11 : decode prog_7_method_1_code 11 = .ok (.aload_n 0, 1) := by decide +kernel
theorem d_Values_init_12 : decode prog_7_method_1_code 12 = .ok (.iload_n 1, 1) := by decide +kernel
theorem d_Values_init_13 : decode prog_7_method_1_code 13 = .ok (.newarray .int, 2) := by decide +kernel
theorem d_Values_init_15 : decode prog_7_method_1_code 15 = .ok (.putfield 13, 3) := by decide +kernel
theorem d_Values_init_18 : decode prog_7_method_1_code 18 = .ok (.return_, 1) := by decide +kernel
theorem d_Values_add_0 : decode prog_7_method_3_code 0 = .ok (.aload_n 0, 1) := by decide +kernel
theorem d_Values_add_1 : decode prog_7_method_3_code 1 = .ok (.getfield 16, 3) := by decide +kernel
theorem d_Values_add_4 : decode prog_7_method_3_code 4 = .ok (.aload_n 0, 1) := by decide +kernel
theorem d_Values_add_5 : decode prog_7_method_3_code 5 = .ok (.getfield 7, 3) := by decide +kernel
theorem d_Values_add_8 : decode prog_7_method_3_code 8 = .ok (.arraylength, 1) := by decide +kernel
theorem d_Values_add_9 : decode prog_7_method_3_code 9 = .ok (.if_icmp .lt 5, 3) := by decide +kernel
theorem d_Values_add_12 : decode prog_7_method_3_code 12 = .ok (.iconst 0, 1) := by decide +kernel
theorem d_Values_add_13 : decode prog_7_method_3_code 13 = .ok (.ireturn, 1) := by decide +kernel
theorem d_Values_add_14 : decode prog_7_method_3_code 14 = .ok (.aload_n 0, 1) := by decide +kernel
theorem d_Values_add_15 : decode prog_7_method_3_code 15 = .ok (.getfield 7, 3) := by decide +kernel
theorem d_Values_add_18 : decode prog_7_method_3_code 18 = .ok (.aload_n 0, 1) := by decide +kernel
theorem d_Values_add_19 : decode prog_7_method_3_code 19 = .ok (.getfield 16, 3) := by decide +kernel
theorem d_Values_add_22 : decode prog_7_method_3_code 22 = .ok (.iload_n 1, 1) := by decide +kernel
theorem d_Values_add_23 : decode prog_7_method_3_code 23 = .ok (.iastore, 1) := by decide +kernel
theorem d_Values_add_24 : decode prog_7_method_3_code 24 = .ok (.aload_n 0, 1) := by decide +kernel
theorem d_Values_add_25 : decode prog_7_method_3_code 25 = .ok (.getfield 13, 3) := by decide +kernel
theorem d_Values_add_28 : decode prog_7_method_3_code 28 = .ok (.aload_n 0, 1) := by decide +kernel
theorem d_Values_add_29 : decode prog_7_method_3_code 29 = .ok (.getfield 16, 3) := by decide +kernel
theorem d_Values_add_32 : decode prog_7_method_3_code 32 = .ok (.iload_n 2, 1) := by decide +kernel
theorem d_Values_add_33 : decode prog_7_method_3_code 33 = .ok (.iastore, 1) := by decide +kernel
theorem d_Values_add_34 : decode prog_7_method_3_code 34 = .ok (.aload_n 0, 1) := by decide +kernel
theorem d_Values_add_35 : decode prog_7_method_3_code 35 = .ok (.dup, 1) := by decide +kernel
theorem d_Values_add_36 : decode prog_7_method_3_code 36 = .ok (.getfield 16, 3) := by decide +kernel
theorem d_Values_add_39 : decode prog_7_method_3_code 39 = .ok (.iconst 1, 1) := by decide +kernel
theorem d_Values_add_40 : decode prog_7_method_3_code 40 = .ok (.iadd, 1) := by decide +kernel
theorem d_Values_add_41 : decode prog_7_method_3_code 41 = .ok (.putfield 16, 3) := by decide +kernel
theorem d_Values_add_44 : decode prog_7_method_3_code 44 = .ok (.iconst 1, 1) := by decide +kernel
theorem d_Values_add_45 : decode prog_7_method_3_code 45 = .ok (.ireturn, 1) := by decide +kernel
theorem d_Values_isFull_0 : decode prog_7_method_2_code 0 = .ok (.aload_n 0, 1) := by decide +kernel
theorem d_Values_isFull_1 : decode prog_7_method_2_code 1 = .ok (.getfield 16, 3) := by decide +kernel
theorem d_Values_isFull_4 : decode prog_7_method_2_code 4 = .ok (.aload_n 0, 1) := by decide +kernel
theorem d_Values_isFull_5 : decode prog_7_method_2_code 5 = .ok (.getfield 7, 3) := by decide +kernel
theorem d_Values_isFull_8 : decode prog_7_method_2_code 8 = .ok (.arraylength, 1) := by decide +kernel
theorem d_Values_isFull_9 : decode prog_7_method_2_code 9 = .ok (.if_icmp .lt 7, 3) := by decide +kernel
theorem d_Values_isFull_12 : decode prog_7_method_2_code 12 = .ok (.iconst 1, 1) := by decide +kernel
theorem d_Values_isFull_13 : decode prog_7_method_2_code 13 = .ok (.goto 4, 3) := by decide +kernel
theorem d_Values_isFull_16 : decode prog_7_method_2_code 16 = .ok (.iconst 0, 1) := by decide +kernel
theorem d_Values_isFull_17 : decode prog_7_method_2_code 17 = .ok (.ireturn, 1) := by decide +kernel
theorem d_World_init_0 : decode prog_8_method_1_code 0 = .ok (.aload_n 0, 1) := by decide +kernel
theorem d_World_init_1 : decode prog_8_method_1_code 1 = .ok (.invokespecial 3, 3) := by decide +kernel
theorem d_World_init_4 : decode prog_8_method_1_code 4 = .ok (.aload_n 0, 1) := by decide +kernel
theorem d_World_init_5 : decode prog_8_method_1_code 5 = .ok (.new 9, 3) := by decide +kernel
theorem d_World_init_8 : decode prog_8_method_1_code 8 = .ok (.dup, 1) := by decide +kernel
theorem d_World_init_9 : decode prog_8_method_1_code 9 = .ok (.invokespecial 11, 3) := by decide +kernel
theorem d_World_init_12 : decode prog_8_method_1_code 12 = .ok (.putfield 12, 3) := by decide +kernel
theorem d_World_init_15 : decode prog_8_method_1_code 15 = .ok (.aload_n 0, 1) := by decide +kernel
theorem d_World_init_16 : decode prog_8_method_1_code 16 = .ok (.sipush 256, 3) := by decide +kernel
theorem d_World_init_19 : decode prog_8_method_1_code 19 = .ok (.newarray .int, 2) := by decide +kernel
theorem d_World_init_21 : decode prog_8_method_1_code 21 = .ok (.putfield 18, 3) := by decide +kernel
theorem d_World_init_24 : decode prog_8_method_1_code 24 = .ok (.aload_n 0, 1) := by decide +kernel
theorem d_World_init_25 : decode prog_8_method_1_code 25 = .ok (.bipush 16, 2) := by decide +kernel
theorem d_World_init_27 : decode prog_8_method_1_code 27 = .ok (.newarray .int, 2) := by decide +kernel
theorem d_World_init_29 : decode prog_8_method_1_code 29 = .ok (.putfield 22, 3) := by decide +kernel
theorem d_World_init_32 : decode prog_8_method_1_code 32 = .ok (.aload_n 0, 1) := by decide +kernel
theorem d_World_init_33 : decode prog_8_method_1_code 33 = .ok (.bipush 32, 2) := by decide +kernel
theorem d_World_init_35 : decode prog_8_method_1_code 35 = .ok (.newarray .int, 2) := by decide +kernel
theorem d_World_init_37 : decode prog_8_method_1_code 37 = .ok (.putfield 25, 3) := by decide +kernel
theorem d_World_init_40 : decode prog_8_method_1_code 40 = .ok (.aload_n 0, 1) := by decide +kernel
theorem d_World_init_41 : decode prog_8_method_1_code 41 = .ok (.bipush 32, 2) := by decide +kernel
theorem d_World_init_43 : decode prog_8_method_1_code 43 = .ok (.newarray .int, 2) := by decide +kernel
theorem d_World_init_45 : decode prog_8_method_1_code 45 = .ok (.putfield 28, 3) := by decide +kernel
theorem d_World_init_48 : decode prog_8_method_1_code 48 = .ok (.return_, 1) := by decide +kernel
theorem d_World_clearOwn_0 : decode prog_8_method_11_code 0 = .ok (.iconst 0, 1) := by decide +kernel
theorem d_World_clearOwn_1 : decode prog_8_method_11_code 1 = .ok (.istore_n 2, 1) := by decide +kernel
theorem d_World_clearOwn_2 : decode prog_8_method_11_code 2 = .ok (.iload_n 2, 1) := by decide +kernel
theorem d_World_clearOwn_3 : decode prog_8_method_11_code 3 = .ok (.bipush 8, 2) := by decide +kernel
theorem d_World_clearOwn_5 : decode prog_8_method_11_code 5 = .ok (.if_icmp .ge 17, 3) := by decide +kernel
theorem d_World_clearOwn_8 : decode prog_8_method_11_code 8 = .ok (.aload_n 0, 1) := by decide +kernel
theorem d_World_clearOwn_9 : decode prog_8_method_11_code 9 = .ok (.iload_n 1, 1) := by decide +kernel
theorem d_World_clearOwn_10 : decode prog_8_method_11_code 10 = .ok (.iload_n 2, 1) := by decide +kernel
theorem d_World_clearOwn_11 : decode prog_8_method_11_code 11 = .ok (.iconst (-1), 1) := by decide +kernel
theorem d_World_clearOwn_12 : decode prog_8_method_11_code 12 = .ok (.iconst 0, 1) := by decide +kernel
theorem d_World_clearOwn_13 : decode prog_8_method_11_code 13 = .ok (.invokevirtual 59, 3) := by decide +kernel
theorem d_World_clearOwn_16 : decode prog_8_method_11_code 16 = .ok (.iinc 2 1, 3) := by decide +kernel
theorem d_World_clearOwn_19 : decode prog_8_method_11_code 19 = .ok (.goto (-17), 3) := by decide +kernel
theorem d_World_clearOwn_22 : decode prog_8_method_11_code 22 = .ok (.return_, 1) := by decide +kernel
theorem d_World_count_0 : decode prog_8_method_4_code 0 = .ok (.aload_n 0, 1) := by decide +kernel
theorem d_World_count_1 : decode prog_8_method_4_code 1 = .ok (.getfield 31, 3) := by decide +kernel
theorem d_World_count_4 : decode prog_8_method_4_code 4 = .ok (.istore_n 1, 1) := by decide +kernel
theorem d_World_count_5 : decode prog_8_method_4_code 5 = .ok (.iconst 0, 1) := by decide +kernel
theorem d_World_count_6 : decode prog_8_method_4_code 6 = .ok (.istore_n 2, 1) := by decide +kernel
theorem d_World_count_7 : decode prog_8_method_4_code 7 = .ok (.iload_n 2, 1) := by decide +kernel
theorem d_World_count_8 : decode prog_8_method_4_code 8 = .ok (.bipush 16, 2) := by decide +kernel
theorem d_World_count_10 : decode prog_8_method_4_code 10 = .ok (.if_icmp .ge 25, 3) := by decide +kernel
theorem d_World_count_13 : decode prog_8_method_4_code 13 = .ok (.aload_n 0, 1) := by decide +kernel
theorem d_World_count_14 : decode prog_8_method_4_code 14 = .ok (.getfield 12, 3) := by decide +kernel
theorem d_World_count_17 : decode prog_8_method_4_code 17 = .ok (.getfield 39, 3) := by decide +kernel
theorem d_World_count_20 : decode prog_8_method_4_code 20 = .ok (.iload_n 2, 1) := by decide +kernel
theorem d_World_count_21 : decode prog_8_method_4_code 21 = .ok (.iaload, 1) := by decide +kernel
theorem d_World_count_22 : decode prog_8_method_4_code 22 = .ok (.iconst (-1), 1) := by decide +kernel
theorem d_World_count_23 : decode prog_8_method_4_code 23 = .ok (.if_icmp .eq 6, 3) := by decide +kernel
theorem d_World_count_26 : decode prog_8_method_4_code 26 = .ok (.iinc 1 1, 3) := by decide +kernel
theorem d_World_count_29 : decode prog_8_method_4_code 29 = .ok (.iinc 2 1, 3) := by decide +kernel
theorem d_World_count_32 : decode prog_8_method_4_code 32 = .ok (.goto (-25), 3) := by decide +kernel
theorem d_World_count_35 : decode prog_8_method_4_code 35 = .ok (.iload_n 1, 1) := by decide +kernel
theorem d_World_count_36 : decode prog_8_method_4_code 36 = .ok (.ireturn, 1) := by decide +kernel
theorem d_World_descends_0 : decode prog_8_method_17_code 0 = .ok (.aload_n 0, 1) := by decide +kernel
theorem d_World_descends_1 : decode prog_8_method_17_code 1 = .ok (.iload_n 1, 1) := by decide +kernel
theorem d_World_descends_2 : decode prog_8_method_17_code 2 = .ok (.invokevirtual 82, 3) := by decide +kernel
theorem d_World_descends_5 : decode prog_8_method_17_code 5 = .ok (.ifCond .eq 11, 3) := by decide +kernel
theorem d_World_descends_8 : decode prog_8_method_17_code 8 = .ok (.aload_n 0, 1) := by decide +kernel
theorem d_World_descends_9 : decode prog_8_method_17_code 9 = .ok (.iload_n 2, 1) := by decide +kernel
theorem d_World_descends_10 : decode prog_8_method_17_code 10 = .ok (.invokevirtual 82, 3) := by decide +kernel
theorem d_World_descends_13 : decode prog_8_method_17_code 13 = .ok (.ifCond .ne 5, 3) := by decide +kernel
theorem d_World_descends_16 : decode prog_8_method_17_code 16 = .ok (.iconst 0, 1) := by decide +kernel
theorem d_World_descends_17 : decode prog_8_method_17_code 17 = .ok (.ireturn, 1) := by decide +kernel
theorem d_World_descends_18 : decode prog_8_method_17_code 18 = .ok (.aload_n 0, 1) := by decide +kernel
theorem d_World_descends_19 : decode prog_8_method_17_code 19 = .ok (.iload_n 1, 1) := by decide +kernel
theorem d_World_descends_20 : decode prog_8_method_17_code 20 = .ok (.invokevirtual 72, 3) := by decide +kernel
theorem d_World_descends_23 : decode prog_8_method_17_code 23 = .ok (.aload_n 0, 1) := by decide +kernel
theorem d_World_descends_24 : decode prog_8_method_17_code 24 = .ok (.iload_n 2, 1) := by decide +kernel
theorem d_World_descends_25 : decode prog_8_method_17_code 25 = .ok (.invokevirtual 78, 3) := by decide +kernel
theorem d_World_descends_28 : decode prog_8_method_17_code 28 = .ok (.iconst (-1), 1) := by decide +kernel
theorem d_World_descends_29 : decode prog_8_method_17_code 29 = .ok (.if_icmp .eq 7, 3) := by decide +kernel
theorem d_World_descends_32 : decode prog_8_method_17_code 32 = .ok (.iconst 1, 1) := by decide +kernel
theorem d_World_descends_33 : decode prog_8_method_17_code 33 = .ok (.goto 4, 3) := by decide +kernel
theorem d_World_descends_36 : decode prog_8_method_17_code 36 = .ok (.iconst 0, 1) := by decide +kernel
theorem d_World_descends_37 : decode prog_8_method_17_code 37 = .ok (.ireturn, 1) := by decide +kernel
theorem d_World_fix_0 : decode prog_8_method_8_code 0 = .ok (.aload_n 0, 1) := by decide +kernel
theorem d_World_fix_1 : decode prog_8_method_8_code 1 = .ok (.iconst 0, 1) := by decide +kernel
theorem d_World_fix_2 : decode prog_8_method_8_code 2 = .ok (.putfield 48, 3) := by decide +kernel
theorem d_World_fix_5 : decode prog_8_method_8_code 5 = .ok (.iconst 0, 1) := by decide +kernel
theorem d_World_fix_6 : decode prog_8_method_8_code 6 = .ok (.istore 5, 2) := by decide +kernel
theorem d_World_fix_8 : decode prog_8_method_8_code 8 = .ok (.iload_n 1, 1) := by decide +kernel
theorem d_World_fix_9 : decode prog_8_method_8_code 9 = .ok (.iconst 1, 1) := by decide +kernel
theorem d_World_fix_10 : decode prog_8_method_8_code 10 = .ok (.isub, 1) := by decide +kernel
theorem d_World_fix_11 : decode prog_8_method_8_code 11 = .ok (.istore 6, 2) := by decide +kernel
theorem d_World_fix_13 : decode prog_8_method_8_code 13 = .ok (.iload 6, 2) := by decide +kernel
theorem d_World_fix_15 : decode prog_8_method_8_code 15 = .ok (.ifCond .lt 38, 3) := by decide +kernel
theorem d_World_fix_18 : decode prog_8_method_8_code 18 = .ok (.aload_n 0, 1) := by decide +kernel
theorem d_World_fix_19 : decode prog_8_method_8_code 19 = .ok (.iload 6, 2) := by decide +kernel
theorem d_World_fix_21 : decode prog_8_method_8_code 21 = .ok (.ifCond .ne 7, 3) := by decide +kernel
theorem d_World_fix_24 : decode prog_8_method_8_code 24 = .ok (.iload_n 2, 1) := by decide +kernel
