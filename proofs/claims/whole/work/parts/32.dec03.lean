theorem dX10_init_517 : decode cX10_init 517 = .ok (.iastore, 1) := by decide +kernel
theorem dX10_init_518 : decode cX10_init 518 = .ok (.dup, 1) := by decide +kernel
theorem dX10_init_519 : decode cX10_init 519 = .ok (.bipush 74, 2) := by decide +kernel
theorem dX10_init_521 : decode cX10_init 521 = .ok (.sipush 9284, 3) := by decide +kernel
theorem dX10_init_524 : decode cX10_init 524 = .ok (.iastore, 1) := by decide +kernel
theorem dX10_init_525 : decode cX10_init 525 = .ok (.dup, 1) := by decide +kernel
theorem dX10_init_526 : decode cX10_init 526 = .ok (.bipush 75, 2) := by decide +kernel
theorem dX10_init_528 : decode cX10_init 528 = .ok (.sipush 8772, 3) := by decide +kernel
theorem dX10_init_531 : decode cX10_init 531 = .ok (.iastore, 1) := by decide +kernel
theorem dX10_init_532 : decode cX10_init 532 = .ok (.dup, 1) := by decide +kernel
theorem dX10_init_533 : decode cX10_init 533 = .ok (.bipush 76, 2) := by decide +kernel
theorem dX10_init_535 : decode cX10_init 535 = .ok (.sipush 4164, 3) := by decide +kernel
theorem dX10_init_538 : decode cX10_init 538 = .ok (.iastore, 1) := by decide +kernel
theorem dX10_init_539 : decode cX10_init 539 = .ok (.dup, 1) := by decide +kernel
theorem dX10_init_540 : decode cX10_init 540 = .ok (.bipush 77, 2) := by decide +kernel
theorem dX10_init_542 : decode cX10_init 542 = .ok (.bipush 68, 2) := by decide +kernel
theorem dX10_init_544 : decode cX10_init 544 = .ok (.iastore, 1) := by decide +kernel
theorem dX10_init_545 : decode cX10_init 545 = .ok (.dup, 1) := by decide +kernel
theorem dX10_init_546 : decode cX10_init 546 = .ok (.bipush 78, 2) := by decide +kernel
theorem dX10_init_548 : decode cX10_init 548 = .ok (.sipush 1092, 3) := by decide +kernel
theorem dX10_init_551 : decode cX10_init 551 = .ok (.iastore, 1) := by decide +kernel
theorem dX10_init_552 : decode cX10_init 552 = .ok (.dup, 1) := by decide +kernel
theorem dX10_init_553 : decode cX10_init 553 = .ok (.bipush 79, 2) := by decide +kernel
theorem dX10_init_555 : decode cX10_init 555 = .ok (.sipush 2116, 3) := by decide +kernel
theorem dX10_init_558 : decode cX10_init 558 = .ok (.iastore, 1) := by decide +kernel
theorem dX10_init_559 : decode cX10_init 559 = .ok (.dup, 1) := by decide +kernel
theorem dX10_init_560 : decode cX10_init 560 = .ok (.bipush 80, 2) := by decide +kernel
theorem dX10_init_562 : decode cX10_init 562 = .ok (.sipush 8228, 3) := by decide +kernel
theorem dX10_init_565 : decode cX10_init 565 = .ok (.iastore, 1) := by decide +kernel
theorem dX10_init_566 : decode cX10_init 566 = .ok (.dup, 1) := by decide +kernel
theorem dX10_init_567 : decode cX10_init 567 = .ok (.bipush 81, 2) := by decide +kernel
theorem dX10_init_569 : decode cX10_init 569 = .ok (.sipush 8324, 3) := by decide +kernel
theorem dX10_init_572 : decode cX10_init 572 = .ok (.iastore, 1) := by decide +kernel
theorem dX10_init_573 : decode cX10_init 573 = .ok (.dup, 1) := by decide +kernel
theorem dX10_init_574 : decode cX10_init 574 = .ok (.bipush 82, 2) := by decide +kernel
theorem dX10_init_576 : decode cX10_init 576 = .ok (.sipush 9348, 3) := by decide +kernel
theorem dX10_init_579 : decode cX10_init 579 = .ok (.iastore, 1) := by decide +kernel
theorem dX10_init_580 : decode cX10_init 580 = .ok (.dup, 1) := by decide +kernel
theorem dX10_init_581 : decode cX10_init 581 = .ok (.bipush 83, 2) := by decide +kernel
theorem dX10_init_583 : decode cX10_init 583 = .ok (.sipush 2084, 3) := by decide +kernel
theorem dX10_init_586 : decode cX10_init 586 = .ok (.iastore, 1) := by decide +kernel
theorem dX10_init_587 : decode cX10_init 587 = .ok (.dup, 1) := by decide +kernel
theorem dX10_init_588 : decode cX10_init 588 = .ok (.bipush 84, 2) := by decide +kernel
theorem dX10_init_590 : decode cX10_init 590 = .ok (.sipush 4228, 3) := by decide +kernel
theorem dX10_init_593 : decode cX10_init 593 = .ok (.iastore, 1) := by decide +kernel
theorem dX10_init_594 : decode cX10_init 594 = .ok (.dup, 1) := by decide +kernel
theorem dX10_init_595 : decode cX10_init 595 = .ok (.bipush 85, 2) := by decide +kernel
theorem dX10_init_597 : decode cX10_init 597 = .ok (.sipush 132, 3) := by decide +kernel
theorem dX10_init_600 : decode cX10_init 600 = .ok (.iastore, 1) := by decide +kernel
theorem dX10_init_601 : decode cX10_init 601 = .ok (.dup, 1) := by decide +kernel
theorem dX10_init_602 : decode cX10_init 602 = .ok (.bipush 86, 2) := by decide +kernel
theorem dX10_init_604 : decode cX10_init 604 = .ok (.sipush 1156, 3) := by decide +kernel
theorem dX10_init_607 : decode cX10_init 607 = .ok (.iastore, 1) := by decide +kernel
theorem dX10_init_608 : decode cX10_init 608 = .ok (.dup, 1) := by decide +kernel
theorem dX10_init_609 : decode cX10_init 609 = .ok (.bipush 87, 2) := by decide +kernel
theorem dX10_init_611 : decode cX10_init 611 = .ok (.sipush 2180, 3) := by decide +kernel
theorem dX10_init_614 : decode cX10_init 614 = .ok (.iastore, 1) := by decide +kernel
theorem dX10_init_615 : decode cX10_init 615 = .ok (.dup, 1) := by decide +kernel
theorem dX10_init_616 : decode cX10_init 616 = .ok (.bipush 88, 2) := by decide +kernel
theorem dX10_init_618 : decode cX10_init 618 = .ok (.sipush 4612, 3) := by decide +kernel
theorem dX10_init_621 : decode cX10_init 621 = .ok (.iastore, 1) := by decide +kernel
theorem dX10_init_622 : decode cX10_init 622 = .ok (.dup, 1) := by decide +kernel
theorem dX10_init_623 : decode cX10_init 623 = .ok (.bipush 89, 2) := by decide +kernel
theorem dX10_init_625 : decode cX10_init 625 = .ok (.sipush 8196, 3) := by decide +kernel
theorem dX10_init_628 : decode cX10_init 628 = .ok (.iastore, 1) := by decide +kernel
theorem dX10_init_629 : decode cX10_init 629 = .ok (.dup, 1) := by decide +kernel
theorem dX10_init_630 : decode cX10_init 630 = .ok (.bipush 90, 2) := by decide +kernel
theorem dX10_init_632 : decode cX10_init 632 = .ok (.sipush 9220, 3) := by decide +kernel
theorem dX10_init_635 : decode cX10_init 635 = .ok (.iastore, 1) := by decide +kernel
theorem dX10_init_636 : decode cX10_init 636 = .ok (.dup, 1) := by decide +kernel
theorem dX10_init_637 : decode cX10_init 637 = .ok (.bipush 91, 2) := by decide +kernel
theorem dX10_init_639 : decode cX10_init 639 = .ok (.sipush 8708, 3) := by decide +kernel
theorem dX10_init_642 : decode cX10_init 642 = .ok (.iastore, 1) := by decide +kernel
theorem dX10_init_643 : decode cX10_init 643 = .ok (.dup, 1) := by decide +kernel
theorem dX10_init_644 : decode cX10_init 644 = .ok (.bipush 92, 2) := by decide +kernel
theorem dX10_init_646 : decode cX10_init 646 = .ok (.sipush 4100, 3) := by decide +kernel
theorem dX10_init_649 : decode cX10_init 649 = .ok (.iastore, 1) := by decide +kernel
theorem dX10_init_650 : decode cX10_init 650 = .ok (.dup, 1) := by decide +kernel
theorem dX10_init_651 : decode cX10_init 651 = .ok (.bipush 93, 2) := by decide +kernel
theorem dX10_init_653 : decode cX10_init 653 = .ok (.sipush 516, 3) := by decide +kernel
theorem dX10_init_656 : decode cX10_init 656 = .ok (.iastore, 1) := by decide +kernel
theorem dX10_init_657 : decode cX10_init 657 = .ok (.dup, 1) := by decide +kernel
theorem dX10_init_658 : decode cX10_init 658 = .ok (.bipush 94, 2) := by decide +kernel
theorem dX10_init_660 : decode cX10_init 660 = .ok (.sipush 1028, 3) := by decide +kernel
theorem dX10_init_663 : decode cX10_init 663 = .ok (.iastore, 1) := by decide +kernel
theorem dX10_init_664 : decode cX10_init 664 = .ok (.dup, 1) := by decide +kernel
theorem dX10_init_665 : decode cX10_init 665 = .ok (.bipush 95, 2) := by decide +kernel
theorem dX10_init_667 : decode cX10_init 667 = .ok (.sipush 2052, 3) := by decide +kernel
theorem dX10_init_670 : decode cX10_init 670 = .ok (.iastore, 1) := by decide +kernel
theorem dX10_init_671 : decode cX10_init 671 = .ok (.dup, 1) := by decide +kernel
theorem dX10_init_672 : decode cX10_init 672 = .ok (.bipush 96, 2) := by decide +kernel
theorem dX10_init_674 : decode cX10_init 674 = .ok (.sipush 4642, 3) := by decide +kernel
theorem dX10_init_677 : decode cX10_init 677 = .ok (.iastore, 1) := by decide +kernel
theorem dX10_init_678 : decode cX10_init 678 = .ok (.dup, 1) := by decide +kernel
theorem dX10_init_679 : decode cX10_init 679 = .ok (.bipush 97, 2) := by decide +kernel
theorem dX10_init_681 : decode cX10_init 681 = .ok (.sipush 8482, 3) := by decide +kernel
theorem dX10_init_684 : decode cX10_init 684 = .ok (.iastore, 1) := by decide +kernel
theorem dX10_init_685 : decode cX10_init 685 = .ok (.dup, 1) := by decide +kernel
theorem dX10_init_686 : decode cX10_init 686 = .ok (.bipush 98, 2) := by decide +kernel
theorem dX10_init_688 : decode cX10_init 688 = .ok (.sipush 9250, 3) := by decide +kernel
