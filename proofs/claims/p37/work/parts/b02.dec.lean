/-! THE LAW'S DECODE ROWS, 2 -/
theorem dL_isRefused_391 : decode cL_isRefused 391 = .ok (.iload_n 3, 1) := by decide +kernel
theorem dL_isRefused_392 : decode cL_isRefused 392 = .ok (.bipush 7, 2) := by decide +kernel
theorem dL_isRefused_394 : decode cL_isRefused 394 = .ok (.irem, 1) := by decide +kernel
theorem dL_isRefused_395 : decode cL_isRefused 395 = .ok (.bipush (-7), 2) := by decide +kernel
theorem dL_isRefused_397 : decode cL_isRefused 397 = .ok (.iload_n 3, 1) := by decide +kernel
theorem dL_isRefused_398 : decode cL_isRefused 398 = .ok (.bipush 7, 2) := by decide +kernel
theorem dL_isRefused_400 : decode cL_isRefused 400 = .ok (.irem, 1) := by decide +kernel
theorem dL_isRefused_401 : decode cL_isRefused 401 = .ok (.iadd, 1) := by decide +kernel
theorem dL_isRefused_402 : decode cL_isRefused 402 = .ok (.iconst 5, 1) := by decide +kernel
theorem dL_isRefused_403 : decode cL_isRefused 403 = .ok (.iconst 5, 1) := by decide +kernel
theorem dL_isRefused_404 : decode cL_isRefused 404 = .ok (.iconst 0, 1) := by decide +kernel
theorem dL_isRefused_405 : decode cL_isRefused 405 = .ok (.invokestatic 149, 3) := by decide +kernel
theorem dL_isRefused_408 : decode cL_isRefused 408 = .ok (.ldc 110, 2) := by decide +kernel
theorem dL_isRefused_410 : decode cL_isRefused 410 = .ok (.if_icmp .ne 116, 3) := by decide +kernel
theorem dL_isRefused_413 : decode cL_isRefused 413 = .ok (.aload_n 0, 1) := by decide +kernel
theorem dL_isRefused_414 : decode cL_isRefused 414 = .ok (.iconst 5, 1) := by decide +kernel
theorem dL_isRefused_415 : decode cL_isRefused 415 = .ok (.iload 5, 2) := by decide +kernel
theorem dL_isRefused_417 : decode cL_isRefused 417 = .ok (.iconst 5, 1) := by decide +kernel
theorem dL_isRefused_418 : decode cL_isRefused 418 = .ok (.iconst 5, 1) := by decide +kernel
theorem dL_isRefused_419 : decode cL_isRefused 419 = .ok (.iconst 0, 1) := by decide +kernel
theorem dL_isRefused_420 : decode cL_isRefused 420 = .ok (.iconst 0, 1) := by decide +kernel
theorem dL_isRefused_421 : decode cL_isRefused 421 = .ok (.iconst 0, 1) := by decide +kernel
theorem dL_isRefused_422 : decode cL_isRefused 422 = .ok (.invokestatic 149, 3) := by decide +kernel
theorem dL_isRefused_425 : decode cL_isRefused 425 = .ok (.ldc 107, 2) := by decide +kernel
theorem dL_isRefused_427 : decode cL_isRefused 427 = .ok (.if_icmp .ne 99, 3) := by decide +kernel
theorem dL_isRefused_430 : decode cL_isRefused 430 = .ok (.aload_n 0, 1) := by decide +kernel
theorem dL_isRefused_431 : decode cL_isRefused 431 = .ok (.iconst 5, 1) := by decide +kernel
theorem dL_isRefused_432 : decode cL_isRefused 432 = .ok (.iconst 0, 1) := by decide +kernel
theorem dL_isRefused_433 : decode cL_isRefused 433 = .ok (.bipush (-7), 2) := by decide +kernel
theorem dL_isRefused_435 : decode cL_isRefused 435 = .ok (.iload_n 3, 1) := by decide +kernel
theorem dL_isRefused_436 : decode cL_isRefused 436 = .ok (.bipush 7, 2) := by decide +kernel
theorem dL_isRefused_438 : decode cL_isRefused 438 = .ok (.irem, 1) := by decide +kernel
theorem dL_isRefused_439 : decode cL_isRefused 439 = .ok (.iadd, 1) := by decide +kernel
theorem dL_isRefused_440 : decode cL_isRefused 440 = .ok (.iconst 5, 1) := by decide +kernel
theorem dL_isRefused_441 : decode cL_isRefused 441 = .ok (.iconst 0, 1) := by decide +kernel
theorem dL_isRefused_442 : decode cL_isRefused 442 = .ok (.iconst 0, 1) := by decide +kernel
theorem dL_isRefused_443 : decode cL_isRefused 443 = .ok (.iconst 0, 1) := by decide +kernel
theorem dL_isRefused_444 : decode cL_isRefused 444 = .ok (.invokestatic 149, 3) := by decide +kernel
theorem dL_isRefused_447 : decode cL_isRefused 447 = .ok (.ldc 110, 2) := by decide +kernel
theorem dL_isRefused_449 : decode cL_isRefused 449 = .ok (.if_icmp .ne 77, 3) := by decide +kernel
theorem dL_isRefused_452 : decode cL_isRefused 452 = .ok (.aload_n 0, 1) := by decide +kernel
theorem dL_isRefused_453 : decode cL_isRefused 453 = .ok (.iconst 5, 1) := by decide +kernel
theorem dL_isRefused_454 : decode cL_isRefused 454 = .ok (.iconst 0, 1) := by decide +kernel
theorem dL_isRefused_455 : decode cL_isRefused 455 = .ok (.sipush 10000, 3) := by decide +kernel
theorem dL_isRefused_458 : decode cL_isRefused 458 = .ok (.sipush 10000, 3) := by decide +kernel
theorem dL_isRefused_461 : decode cL_isRefused 461 = .ok (.iconst 0, 1) := by decide +kernel
theorem dL_isRefused_462 : decode cL_isRefused 462 = .ok (.iconst 0, 1) := by decide +kernel
theorem dL_isRefused_463 : decode cL_isRefused 463 = .ok (.iconst 0, 1) := by decide +kernel
theorem dL_isRefused_464 : decode cL_isRefused 464 = .ok (.invokestatic 149, 3) := by decide +kernel
theorem dL_isRefused_467 : decode cL_isRefused 467 = .ok (.ldc 110, 2) := by decide +kernel
theorem dL_isRefused_469 : decode cL_isRefused 469 = .ok (.if_icmp .ne 57, 3) := by decide +kernel
theorem dL_isRefused_472 : decode cL_isRefused 472 = .ok (.aload_n 0, 1) := by decide +kernel
theorem dL_isRefused_473 : decode cL_isRefused 473 = .ok (.bipush 6, 2) := by decide +kernel
theorem dL_isRefused_475 : decode cL_isRefused 475 = .ok (.iload 5, 2) := by decide +kernel
theorem dL_isRefused_477 : decode cL_isRefused 477 = .ok (.iconst 0, 1) := by decide +kernel
theorem dL_isRefused_478 : decode cL_isRefused 478 = .ok (.iconst 0, 1) := by decide +kernel
theorem dL_isRefused_479 : decode cL_isRefused 479 = .ok (.iconst 0, 1) := by decide +kernel
theorem dL_isRefused_480 : decode cL_isRefused 480 = .ok (.iconst 0, 1) := by decide +kernel
theorem dL_isRefused_481 : decode cL_isRefused 481 = .ok (.iconst 0, 1) := by decide +kernel
theorem dL_isRefused_482 : decode cL_isRefused 482 = .ok (.invokestatic 149, 3) := by decide +kernel
theorem dL_isRefused_485 : decode cL_isRefused 485 = .ok (.ldc 107, 2) := by decide +kernel
theorem dL_isRefused_487 : decode cL_isRefused 487 = .ok (.if_icmp .ne 39, 3) := by decide +kernel
theorem dL_isRefused_490 : decode cL_isRefused 490 = .ok (.aload_n 0, 1) := by decide +kernel
theorem dL_isRefused_491 : decode cL_isRefused 491 = .ok (.bipush 7, 2) := by decide +kernel
theorem dL_isRefused_493 : decode cL_isRefused 493 = .ok (.iload 4, 2) := by decide +kernel
theorem dL_isRefused_495 : decode cL_isRefused 495 = .ok (.ifCond .eq 12, 3) := by decide +kernel
theorem dL_isRefused_498 : decode cL_isRefused 498 = .ok (.iconst 0, 1) := by decide +kernel
theorem dL_isRefused_499 : decode cL_isRefused 499 = .ok (.iload_n 3, 1) := by decide +kernel
theorem dL_isRefused_500 : decode cL_isRefused 500 = .ok (.bipush 30, 2) := by decide +kernel
theorem dL_isRefused_502 : decode cL_isRefused 502 = .ok (.irem, 1) := by decide +kernel
theorem dL_isRefused_503 : decode cL_isRefused 503 = .ok (.isub, 1) := by decide +kernel
theorem dL_isRefused_504 : decode cL_isRefused 504 = .ok (.goto 5, 3) := by decide +kernel
theorem dL_isRefused_507 : decode cL_isRefused 507 = .ok (.bipush 11, 2) := by decide +kernel
theorem dL_isRefused_509 : decode cL_isRefused 509 = .ok (.iconst 0, 1) := by decide +kernel
theorem dL_isRefused_510 : decode cL_isRefused 510 = .ok (.iconst 0, 1) := by decide +kernel
theorem dL_isRefused_511 : decode cL_isRefused 511 = .ok (.iconst 0, 1) := by decide +kernel
theorem dL_isRefused_512 : decode cL_isRefused 512 = .ok (.iconst 0, 1) := by decide +kernel
theorem dL_isRefused_513 : decode cL_isRefused 513 = .ok (.iconst 0, 1) := by decide +kernel
theorem dL_isRefused_514 : decode cL_isRefused 514 = .ok (.invokestatic 149, 3) := by decide +kernel
theorem dL_isRefused_517 : decode cL_isRefused 517 = .ok (.ldc 110, 2) := by decide +kernel
theorem dL_isRefused_519 : decode cL_isRefused 519 = .ok (.if_icmp .ne 7, 3) := by decide +kernel
theorem dL_isRefused_522 : decode cL_isRefused 522 = .ok (.iconst 1, 1) := by decide +kernel
theorem dL_isRefused_523 : decode cL_isRefused 523 = .ok (.goto 4, 3) := by decide +kernel
theorem dL_isRefused_526 : decode cL_isRefused 526 = .ok (.iconst 0, 1) := by decide +kernel
theorem dL_isRefused_527 : decode cL_isRefused 527 = .ok (.istore 9, 2) := by decide +kernel
theorem dL_isRefused_529 : decode cL_isRefused 529 = .ok (.iload 9, 2) := by decide +kernel
theorem dL_isRefused_531 : decode cL_isRefused 531 = .ok (.ifCond .eq 462, 3) := by decide +kernel
theorem dL_isRefused_534 : decode cL_isRefused 534 = .ok (.aload_n 0, 1) := by decide +kernel
theorem dL_isRefused_535 : decode cL_isRefused 535 = .ok (.bipush 8, 2) := by decide +kernel
theorem dL_isRefused_537 : decode cL_isRefused 537 = .ok (.iload 4, 2) := by decide +kernel
theorem dL_isRefused_539 : decode cL_isRefused 539 = .ok (.ifCond .eq 12, 3) := by decide +kernel
theorem dL_isRefused_542 : decode cL_isRefused 542 = .ok (.iconst (-1), 1) := by decide +kernel
theorem dL_isRefused_543 : decode cL_isRefused 543 = .ok (.iload_n 3, 1) := by decide +kernel
theorem dL_isRefused_544 : decode cL_isRefused 544 = .ok (.bipush 30, 2) := by decide +kernel
theorem dL_isRefused_546 : decode cL_isRefused 546 = .ok (.irem, 1) := by decide +kernel
theorem dL_isRefused_547 : decode cL_isRefused 547 = .ok (.isub, 1) := by decide +kernel
theorem dL_isRefused_548 : decode cL_isRefused 548 = .ok (.goto 8, 3) := by decide +kernel
theorem dL_isRefused_551 : decode cL_isRefused 551 = .ok (.aload_n 1, 1) := by decide +kernel
theorem dL_isRefused_552 : decode cL_isRefused 552 = .ok (.iconst 0, 1) := by decide +kernel
theorem dL_isRefused_553 : decode cL_isRefused 553 = .ok (.iaload, 1) := by decide +kernel
theorem dL_isRefused_554 : decode cL_isRefused 554 = .ok (.iconst 1, 1) := by decide +kernel
theorem dL_isRefused_555 : decode cL_isRefused 555 = .ok (.iadd, 1) := by decide +kernel
theorem dL_isRefused_556 : decode cL_isRefused 556 = .ok (.iconst 5, 1) := by decide +kernel
theorem dL_isRefused_557 : decode cL_isRefused 557 = .ok (.iconst 5, 1) := by decide +kernel
theorem dL_isRefused_558 : decode cL_isRefused 558 = .ok (.iconst 5, 1) := by decide +kernel
theorem dL_isRefused_559 : decode cL_isRefused 559 = .ok (.iconst 0, 1) := by decide +kernel
theorem dL_isRefused_560 : decode cL_isRefused 560 = .ok (.iconst 0, 1) := by decide +kernel
theorem dL_isRefused_561 : decode cL_isRefused 561 = .ok (.invokestatic 149, 3) := by decide +kernel
theorem dL_isRefused_564 : decode cL_isRefused 564 = .ok (.ldc 110, 2) := by decide +kernel
theorem dL_isRefused_566 : decode cL_isRefused 566 = .ok (.if_icmp .ne 427, 3) := by decide +kernel
theorem dL_isRefused_569 : decode cL_isRefused 569 = .ok (.aload_n 0, 1) := by decide +kernel
theorem dL_isRefused_570 : decode cL_isRefused 570 = .ok (.bipush 9, 2) := by decide +kernel
theorem dL_isRefused_572 : decode cL_isRefused 572 = .ok (.iload 6, 2) := by decide +kernel
theorem dL_isRefused_574 : decode cL_isRefused 574 = .ok (.iconst 5, 1) := by decide +kernel
theorem dL_isRefused_575 : decode cL_isRefused 575 = .ok (.iconst 5, 1) := by decide +kernel
theorem dL_isRefused_576 : decode cL_isRefused 576 = .ok (.iconst (-1), 1) := by decide +kernel
theorem dL_isRefused_577 : decode cL_isRefused 577 = .ok (.iload_n 3, 1) := by decide +kernel
theorem dL_isRefused_578 : decode cL_isRefused 578 = .ok (.bipush 30, 2) := by decide +kernel
theorem dL_isRefused_580 : decode cL_isRefused 580 = .ok (.irem, 1) := by decide +kernel
theorem dL_isRefused_581 : decode cL_isRefused 581 = .ok (.isub, 1) := by decide +kernel
theorem dL_isRefused_582 : decode cL_isRefused 582 = .ok (.iconst 0, 1) := by decide +kernel
theorem dL_isRefused_583 : decode cL_isRefused 583 = .ok (.iconst 0, 1) := by decide +kernel
theorem dL_isRefused_584 : decode cL_isRefused 584 = .ok (.invokestatic 149, 3) := by decide +kernel
theorem dL_isRefused_587 : decode cL_isRefused 587 = .ok (.ldc 107, 2) := by decide +kernel
theorem dL_isRefused_589 : decode cL_isRefused 589 = .ok (.if_icmp .ne 404, 3) := by decide +kernel
theorem dL_isRefused_592 : decode cL_isRefused 592 = .ok (.aload_n 0, 1) := by decide +kernel
theorem dL_isRefused_593 : decode cL_isRefused 593 = .ok (.bipush 9, 2) := by decide +kernel
theorem dL_isRefused_595 : decode cL_isRefused 595 = .ok (.iload 6, 2) := by decide +kernel
theorem dL_isRefused_597 : decode cL_isRefused 597 = .ok (.iconst 5, 1) := by decide +kernel
theorem dL_isRefused_598 : decode cL_isRefused 598 = .ok (.iconst 5, 1) := by decide +kernel
theorem dL_isRefused_599 : decode cL_isRefused 599 = .ok (.iconst 0, 1) := by decide +kernel
theorem dL_isRefused_600 : decode cL_isRefused 600 = .ok (.iconst 0, 1) := by decide +kernel
theorem dL_isRefused_601 : decode cL_isRefused 601 = .ok (.iconst 0, 1) := by decide +kernel
theorem dL_isRefused_602 : decode cL_isRefused 602 = .ok (.invokestatic 149, 3) := by decide +kernel
theorem dL_isRefused_605 : decode cL_isRefused 605 = .ok (.ldc 110, 2) := by decide +kernel
theorem dL_isRefused_607 : decode cL_isRefused 607 = .ok (.if_icmp .ne 386, 3) := by decide +kernel
theorem dL_isRefused_610 : decode cL_isRefused 610 = .ok (.aload_n 0, 1) := by decide +kernel
theorem dL_isRefused_611 : decode cL_isRefused 611 = .ok (.bipush 10, 2) := by decide +kernel
theorem dL_isRefused_613 : decode cL_isRefused 613 = .ok (.iload 5, 2) := by decide +kernel
theorem dL_isRefused_615 : decode cL_isRefused 615 = .ok (.sipush 999, 3) := by decide +kernel
theorem dL_isRefused_618 : decode cL_isRefused 618 = .ok (.iconst 0, 1) := by decide +kernel
theorem dL_isRefused_619 : decode cL_isRefused 619 = .ok (.iconst 0, 1) := by decide +kernel
theorem dL_isRefused_620 : decode cL_isRefused 620 = .ok (.iconst 0, 1) := by decide +kernel
theorem dL_isRefused_621 : decode cL_isRefused 621 = .ok (.iconst 0, 1) := by decide +kernel
theorem dL_isRefused_622 : decode cL_isRefused 622 = .ok (.invokestatic 149, 3) := by decide +kernel
theorem dL_isRefused_625 : decode cL_isRefused 625 = .ok (.ldc 107, 2) := by decide +kernel
theorem dL_isRefused_627 : decode cL_isRefused 627 = .ok (.if_icmp .ne 366, 3) := by decide +kernel
theorem dL_isRefused_630 : decode cL_isRefused 630 = .ok (.aload_n 0, 1) := by decide +kernel
theorem dL_isRefused_631 : decode cL_isRefused 631 = .ok (.bipush 10, 2) := by decide +kernel
theorem dL_isRefused_633 : decode cL_isRefused 633 = .ok (.iconst 0, 1) := by decide +kernel
theorem dL_isRefused_634 : decode cL_isRefused 634 = .ok (.iload 4, 2) := by decide +kernel
theorem dL_isRefused_636 : decode cL_isRefused 636 = .ok (.ifCond .eq 7, 3) := by decide +kernel
theorem dL_isRefused_639 : decode cL_isRefused 639 = .ok (.iconst (-1), 1) := by decide +kernel
theorem dL_isRefused_640 : decode cL_isRefused 640 = .ok (.goto 10, 3) := by decide +kernel
theorem dL_isRefused_643 : decode cL_isRefused 643 = .ok (.bipush 100, 2) := by decide +kernel
theorem dL_isRefused_645 : decode cL_isRefused 645 = .ok (.iload_n 3, 1) := by decide +kernel
theorem dL_isRefused_646 : decode cL_isRefused 646 = .ok (.bipush 30, 2) := by decide +kernel
theorem dL_isRefused_648 : decode cL_isRefused 648 = .ok (.irem, 1) := by decide +kernel
theorem dL_isRefused_649 : decode cL_isRefused 649 = .ok (.iadd, 1) := by decide +kernel
theorem dL_isRefused_650 : decode cL_isRefused 650 = .ok (.iconst 0, 1) := by decide +kernel
theorem dL_isRefused_651 : decode cL_isRefused 651 = .ok (.iconst 0, 1) := by decide +kernel
theorem dL_isRefused_652 : decode cL_isRefused 652 = .ok (.iconst 0, 1) := by decide +kernel
theorem dL_isRefused_653 : decode cL_isRefused 653 = .ok (.iconst 0, 1) := by decide +kernel
theorem dL_isRefused_654 : decode cL_isRefused 654 = .ok (.invokestatic 149, 3) := by decide +kernel
theorem dL_isRefused_657 : decode cL_isRefused 657 = .ok (.ldc 110, 2) := by decide +kernel
theorem dL_isRefused_659 : decode cL_isRefused 659 = .ok (.if_icmp .ne 334, 3) := by decide +kernel
theorem dL_isRefused_662 : decode cL_isRefused 662 = .ok (.aload_n 0, 1) := by decide +kernel
theorem dL_isRefused_663 : decode cL_isRefused 663 = .ok (.bipush 10, 2) := by decide +kernel
theorem dL_isRefused_665 : decode cL_isRefused 665 = .ok (.iconst 0, 1) := by decide +kernel
theorem dL_isRefused_666 : decode cL_isRefused 666 = .ok (.iconst 0, 1) := by decide +kernel
theorem dL_isRefused_667 : decode cL_isRefused 667 = .ok (.iload 4, 2) := by decide +kernel
theorem dL_isRefused_669 : decode cL_isRefused 669 = .ok (.ifCond .eq 12, 3) := by decide +kernel
theorem dL_isRefused_672 : decode cL_isRefused 672 = .ok (.iconst (-1), 1) := by decide +kernel
theorem dL_isRefused_673 : decode cL_isRefused 673 = .ok (.iload_n 3, 1) := by decide +kernel
theorem dL_isRefused_674 : decode cL_isRefused 674 = .ok (.bipush 30, 2) := by decide +kernel
theorem dL_isRefused_676 : decode cL_isRefused 676 = .ok (.irem, 1) := by decide +kernel
theorem dL_isRefused_677 : decode cL_isRefused 677 = .ok (.isub, 1) := by decide +kernel
theorem dL_isRefused_678 : decode cL_isRefused 678 = .ok (.goto 5, 3) := by decide +kernel
theorem dL_isRefused_681 : decode cL_isRefused 681 = .ok (.bipush 100, 2) := by decide +kernel
theorem dL_isRefused_683 : decode cL_isRefused 683 = .ok (.iconst 0, 1) := by decide +kernel
theorem dL_isRefused_684 : decode cL_isRefused 684 = .ok (.iconst 0, 1) := by decide +kernel
theorem dL_isRefused_685 : decode cL_isRefused 685 = .ok (.iconst 0, 1) := by decide +kernel
theorem dL_isRefused_686 : decode cL_isRefused 686 = .ok (.invokestatic 149, 3) := by decide +kernel
theorem dL_isRefused_689 : decode cL_isRefused 689 = .ok (.ldc 110, 2) := by decide +kernel
theorem dL_isRefused_691 : decode cL_isRefused 691 = .ok (.if_icmp .ne 302, 3) := by decide +kernel
theorem dL_isRefused_694 : decode cL_isRefused 694 = .ok (.aload_n 0, 1) := by decide +kernel
theorem dL_isRefused_695 : decode cL_isRefused 695 = .ok (.bipush 11, 2) := by decide +kernel
theorem dL_isRefused_697 : decode cL_isRefused 697 = .ok (.iconst 0, 1) := by decide +kernel
theorem dL_isRefused_698 : decode cL_isRefused 698 = .ok (.iload 4, 2) := by decide +kernel
theorem dL_isRefused_700 : decode cL_isRefused 700 = .ok (.ifCond .eq 7, 3) := by decide +kernel
theorem dL_isRefused_703 : decode cL_isRefused 703 = .ok (.iconst (-1), 1) := by decide +kernel
theorem dL_isRefused_704 : decode cL_isRefused 704 = .ok (.goto 10, 3) := by decide +kernel
theorem dL_isRefused_707 : decode cL_isRefused 707 = .ok (.bipush 100, 2) := by decide +kernel
theorem dL_isRefused_709 : decode cL_isRefused 709 = .ok (.iload_n 3, 1) := by decide +kernel
theorem dL_isRefused_710 : decode cL_isRefused 710 = .ok (.bipush 30, 2) := by decide +kernel
theorem dL_isRefused_712 : decode cL_isRefused 712 = .ok (.irem, 1) := by decide +kernel
theorem dL_isRefused_713 : decode cL_isRefused 713 = .ok (.iadd, 1) := by decide +kernel
theorem dL_isRefused_714 : decode cL_isRefused 714 = .ok (.iconst 0, 1) := by decide +kernel
theorem dL_isRefused_715 : decode cL_isRefused 715 = .ok (.iconst 0, 1) := by decide +kernel
theorem dL_isRefused_716 : decode cL_isRefused 716 = .ok (.iconst 0, 1) := by decide +kernel
theorem dL_isRefused_717 : decode cL_isRefused 717 = .ok (.iconst 0, 1) := by decide +kernel
theorem dL_isRefused_718 : decode cL_isRefused 718 = .ok (.invokestatic 149, 3) := by decide +kernel
theorem dL_isRefused_721 : decode cL_isRefused 721 = .ok (.ldc 110, 2) := by decide +kernel
theorem dL_isRefused_723 : decode cL_isRefused 723 = .ok (.if_icmp .ne 270, 3) := by decide +kernel
theorem dL_isRefused_726 : decode cL_isRefused 726 = .ok (.aload_n 0, 1) := by decide +kernel
theorem dL_isRefused_727 : decode cL_isRefused 727 = .ok (.bipush 12, 2) := by decide +kernel
theorem dL_isRefused_729 : decode cL_isRefused 729 = .ok (.iload 4, 2) := by decide +kernel
theorem dL_isRefused_731 : decode cL_isRefused 731 = .ok (.ifCond .eq 7, 3) := by decide +kernel
theorem dL_isRefused_734 : decode cL_isRefused 734 = .ok (.iconst (-1), 1) := by decide +kernel
theorem dL_isRefused_735 : decode cL_isRefused 735 = .ok (.goto 9, 3) := by decide +kernel
theorem dL_isRefused_738 : decode cL_isRefused 738 = .ok (.iconst 3, 1) := by decide +kernel
theorem dL_isRefused_739 : decode cL_isRefused 739 = .ok (.iload_n 3, 1) := by decide +kernel
theorem dL_isRefused_740 : decode cL_isRefused 740 = .ok (.bipush 30, 2) := by decide +kernel
theorem dL_isRefused_742 : decode cL_isRefused 742 = .ok (.irem, 1) := by decide +kernel
theorem dL_isRefused_743 : decode cL_isRefused 743 = .ok (.iadd, 1) := by decide +kernel
theorem dL_isRefused_744 : decode cL_isRefused 744 = .ok (.bipush 99, 2) := by decide +kernel
theorem dL_isRefused_746 : decode cL_isRefused 746 = .ok (.iconst 0, 1) := by decide +kernel
theorem dL_isRefused_747 : decode cL_isRefused 747 = .ok (.iconst 0, 1) := by decide +kernel
theorem dL_isRefused_748 : decode cL_isRefused 748 = .ok (.iconst 0, 1) := by decide +kernel
theorem dL_isRefused_749 : decode cL_isRefused 749 = .ok (.iconst 0, 1) := by decide +kernel
theorem dL_isRefused_750 : decode cL_isRefused 750 = .ok (.invokestatic 149, 3) := by decide +kernel
theorem dL_isRefused_753 : decode cL_isRefused 753 = .ok (.ldc 107, 2) := by decide +kernel
theorem dL_isRefused_755 : decode cL_isRefused 755 = .ok (.if_icmp .ne 238, 3) := by decide +kernel
theorem dL_isRefused_758 : decode cL_isRefused 758 = .ok (.aload_n 0, 1) := by decide +kernel
theorem dL_isRefused_759 : decode cL_isRefused 759 = .ok (.bipush 12, 2) := by decide +kernel
theorem dL_isRefused_761 : decode cL_isRefused 761 = .ok (.iload_n 3, 1) := by decide +kernel
theorem dL_isRefused_762 : decode cL_isRefused 762 = .ok (.iconst 3, 1) := by decide +kernel
theorem dL_isRefused_763 : decode cL_isRefused 763 = .ok (.irem, 1) := by decide +kernel
theorem dL_isRefused_764 : decode cL_isRefused 764 = .ok (.iload 4, 2) := by decide +kernel
theorem dL_isRefused_766 : decode cL_isRefused 766 = .ok (.ifCond .eq 12, 3) := by decide +kernel
theorem dL_isRefused_769 : decode cL_isRefused 769 = .ok (.iconst 0, 1) := by decide +kernel
theorem dL_isRefused_770 : decode cL_isRefused 770 = .ok (.iload_n 3, 1) := by decide +kernel
theorem dL_isRefused_771 : decode cL_isRefused 771 = .ok (.bipush 30, 2) := by decide +kernel
theorem dL_isRefused_773 : decode cL_isRefused 773 = .ok (.irem, 1) := by decide +kernel
theorem dL_isRefused_774 : decode cL_isRefused 774 = .ok (.isub, 1) := by decide +kernel
theorem dL_isRefused_775 : decode cL_isRefused 775 = .ok (.goto 5, 3) := by decide +kernel
theorem dL_isRefused_778 : decode cL_isRefused 778 = .ok (.bipush 21, 2) := by decide +kernel
theorem dL_isRefused_780 : decode cL_isRefused 780 = .ok (.iconst 0, 1) := by decide +kernel
theorem dL_isRefused_781 : decode cL_isRefused 781 = .ok (.iconst 0, 1) := by decide +kernel
theorem dL_isRefused_782 : decode cL_isRefused 782 = .ok (.iconst 0, 1) := by decide +kernel
