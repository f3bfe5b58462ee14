theorem dL_540 : decode code 540 = .ok (.aload_n 1, 1) := by decide +kernel
theorem dL_541 : decode code 541 = .ok (.aload_n 0, 1) := by decide +kernel
theorem dL_542 : decode code 542 = .ok (.iload_n 3, 1) := by decide +kernel
theorem dL_543 : decode code 543 = .ok (.iconst 1, 1) := by decide +kernel
theorem dL_544 : decode code 544 = .ok (.iadd, 1) := by decide +kernel
theorem dL_545 : decode code 545 = .ok (.iaload, 1) := by decide +kernel
theorem dL_546 : decode code 546 = .ok (.invokevirtual 67, 3) := by decide +kernel
theorem dL_549 : decode code 549 = .ok (.aload_n 2, 1) := by decide +kernel
theorem dL_550 : decode code 550 = .ok (.aload_n 0, 1) := by decide +kernel
theorem dL_551 : decode code 551 = .ok (.iload_n 3, 1) := by decide +kernel
theorem dL_552 : decode code 552 = .ok (.iconst 1, 1) := by decide +kernel
theorem dL_553 : decode code 553 = .ok (.iadd, 1) := by decide +kernel
theorem dL_554 : decode code 554 = .ok (.iaload, 1) := by decide +kernel
theorem dL_555 : decode code 555 = .ok (.invokevirtual 70, 3) := by decide +kernel
theorem dL_558 : decode code 558 = .ok (.if_icmp .eq 218, 3) := by decide +kernel
theorem dL_561 : decode code 561 = .ok (.iconst 0, 1) := by decide +kernel
theorem dL_562 : decode code 562 = .ok (.ireturn, 1) := by decide +kernel
theorem dL_563 : decode code 563 = .ok (.aload_n 1, 1) := by decide +kernel
theorem dL_564 : decode code 564 = .ok (.aload_n 0, 1) := by decide +kernel
theorem dL_565 : decode code 565 = .ok (.iload_n 3, 1) := by decide +kernel
theorem dL_566 : decode code 566 = .ok (.iconst 1, 1) := by decide +kernel
theorem dL_567 : decode code 567 = .ok (.iadd, 1) := by decide +kernel
theorem dL_568 : decode code 568 = .ok (.iaload, 1) := by decide +kernel
theorem dL_569 : decode code 569 = .ok (.aload_n 0, 1) := by decide +kernel
theorem dL_570 : decode code 570 = .ok (.iload_n 3, 1) := by decide +kernel
theorem dL_571 : decode code 571 = .ok (.iconst 2, 1) := by decide +kernel
theorem dL_572 : decode code 572 = .ok (.iadd, 1) := by decide +kernel
theorem dL_573 : decode code 573 = .ok (.iaload, 1) := by decide +kernel
theorem dL_574 : decode code 574 = .ok (.invokevirtual 71, 3) := by decide +kernel
theorem dL_577 : decode code 577 = .ok (.aload_n 2, 1) := by decide +kernel
theorem dL_578 : decode code 578 = .ok (.aload_n 0, 1) := by decide +kernel
theorem dL_579 : decode code 579 = .ok (.iload_n 3, 1) := by decide +kernel
theorem dL_580 : decode code 580 = .ok (.iconst 1, 1) := by decide +kernel
theorem dL_581 : decode code 581 = .ok (.iadd, 1) := by decide +kernel
theorem dL_582 : decode code 582 = .ok (.iaload, 1) := by decide +kernel
theorem dL_583 : decode code 583 = .ok (.aload_n 0, 1) := by decide +kernel
theorem dL_584 : decode code 584 = .ok (.iload_n 3, 1) := by decide +kernel
theorem dL_585 : decode code 585 = .ok (.iconst 2, 1) := by decide +kernel
theorem dL_586 : decode code 586 = .ok (.iadd, 1) := by decide +kernel
theorem dL_587 : decode code 587 = .ok (.iaload, 1) := by decide +kernel
theorem dL_588 : decode code 588 = .ok (.invokevirtual 74, 3) := by decide +kernel
theorem dL_591 : decode code 591 = .ok (.if_icmp .eq 185, 3) := by decide +kernel
theorem dL_594 : decode code 594 = .ok (.iconst 0, 1) := by decide +kernel
theorem dL_595 : decode code 595 = .ok (.ireturn, 1) := by decide +kernel
theorem dL_596 : decode code 596 = .ok (.aload_n 1, 1) := by decide +kernel
theorem dL_597 : decode code 597 = .ok (.aload_n 0, 1) := by decide +kernel
theorem dL_598 : decode code 598 = .ok (.iload_n 3, 1) := by decide +kernel
theorem dL_599 : decode code 599 = .ok (.iconst 1, 1) := by decide +kernel
theorem dL_600 : decode code 600 = .ok (.iadd, 1) := by decide +kernel
theorem dL_601 : decode code 601 = .ok (.iaload, 1) := by decide +kernel
theorem dL_602 : decode code 602 = .ok (.aload_n 0, 1) := by decide +kernel
theorem dL_603 : decode code 603 = .ok (.iload_n 3, 1) := by decide +kernel
theorem dL_604 : decode code 604 = .ok (.iconst 2, 1) := by decide +kernel
theorem dL_605 : decode code 605 = .ok (.iadd, 1) := by decide +kernel
theorem dL_606 : decode code 606 = .ok (.iaload, 1) := by decide +kernel
theorem dL_607 : decode code 607 = .ok (.invokevirtual 75, 3) := by decide +kernel
theorem dL_610 : decode code 610 = .ok (.aload_n 2, 1) := by decide +kernel
theorem dL_611 : decode code 611 = .ok (.aload_n 0, 1) := by decide +kernel
theorem dL_612 : decode code 612 = .ok (.iload_n 3, 1) := by decide +kernel
theorem dL_613 : decode code 613 = .ok (.iconst 1, 1) := by decide +kernel
theorem dL_614 : decode code 614 = .ok (.iadd, 1) := by decide +kernel
theorem dL_615 : decode code 615 = .ok (.iaload, 1) := by decide +kernel
theorem dL_616 : decode code 616 = .ok (.aload_n 0, 1) := by decide +kernel
theorem dL_617 : decode code 617 = .ok (.iload_n 3, 1) := by decide +kernel
theorem dL_618 : decode code 618 = .ok (.iconst 2, 1) := by decide +kernel
theorem dL_619 : decode code 619 = .ok (.iadd, 1) := by decide +kernel
theorem dL_620 : decode code 620 = .ok (.iaload, 1) := by decide +kernel
theorem dL_621 : decode code 621 = .ok (.invokevirtual 78, 3) := by decide +kernel
theorem dL_624 : decode code 624 = .ok (.lcmp, 1) := by decide +kernel
theorem dL_625 : decode code 625 = .ok (.ifCond .eq 151, 3) := by decide +kernel
theorem dL_628 : decode code 628 = .ok (.iconst 0, 1) := by decide +kernel
theorem dL_629 : decode code 629 = .ok (.ireturn, 1) := by decide +kernel
theorem dL_630 : decode code 630 = .ok (.aload_n 1, 1) := by decide +kernel
theorem dL_631 : decode code 631 = .ok (.aload_n 0, 1) := by decide +kernel
theorem dL_632 : decode code 632 = .ok (.iload_n 3, 1) := by decide +kernel
theorem dL_633 : decode code 633 = .ok (.iconst 1, 1) := by decide +kernel
theorem dL_634 : decode code 634 = .ok (.iadd, 1) := by decide +kernel
theorem dL_635 : decode code 635 = .ok (.iaload, 1) := by decide +kernel
theorem dL_636 : decode code 636 = .ok (.aload_n 0, 1) := by decide +kernel
theorem dL_637 : decode code 637 = .ok (.iload_n 3, 1) := by decide +kernel
theorem dL_638 : decode code 638 = .ok (.iconst 2, 1) := by decide +kernel
theorem dL_639 : decode code 639 = .ok (.iadd, 1) := by decide +kernel
theorem dL_640 : decode code 640 = .ok (.iaload, 1) := by decide +kernel
theorem dL_641 : decode code 641 = .ok (.invokevirtual 79, 3) := by decide +kernel
theorem dL_644 : decode code 644 = .ok (.aload_n 2, 1) := by decide +kernel
theorem dL_645 : decode code 645 = .ok (.aload_n 0, 1) := by decide +kernel
theorem dL_646 : decode code 646 = .ok (.iload_n 3, 1) := by decide +kernel
theorem dL_647 : decode code 647 = .ok (.iconst 1, 1) := by decide +kernel
theorem dL_648 : decode code 648 = .ok (.iadd, 1) := by decide +kernel
theorem dL_649 : decode code 649 = .ok (.iaload, 1) := by decide +kernel
theorem dL_650 : decode code 650 = .ok (.aload_n 0, 1) := by decide +kernel
theorem dL_651 : decode code 651 = .ok (.iload_n 3, 1) := by decide +kernel
theorem dL_652 : decode code 652 = .ok (.iconst 2, 1) := by decide +kernel
theorem dL_653 : decode code 653 = .ok (.iadd, 1) := by decide +kernel
theorem dL_654 : decode code 654 = .ok (.iaload, 1) := by decide +kernel
theorem dL_655 : decode code 655 = .ok (.invokevirtual 82, 3) := by decide +kernel
theorem dL_658 : decode code 658 = .ok (.lcmp, 1) := by decide +kernel
theorem dL_659 : decode code 659 = .ok (.ifCond .eq 117, 3) := by decide +kernel
theorem dL_662 : decode code 662 = .ok (.iconst 0, 1) := by decide +kernel
theorem dL_663 : decode code 663 = .ok (.ireturn, 1) := by decide +kernel
theorem dL_664 : decode code 664 = .ok (.aload_n 1, 1) := by decide +kernel
theorem dL_665 : decode code 665 = .ok (.invokevirtual 83, 3) := by decide +kernel
theorem dL_668 : decode code 668 = .ok (.aload_n 2, 1) := by decide +kernel
theorem dL_669 : decode code 669 = .ok (.invokevirtual 86, 3) := by decide +kernel
theorem dL_672 : decode code 672 = .ok (.if_icmp .eq 104, 3) := by decide +kernel
theorem dL_675 : decode code 675 = .ok (.iconst 0, 1) := by decide +kernel
theorem dL_676 : decode code 676 = .ok (.ireturn, 1) := by decide +kernel
theorem dL_677 : decode code 677 = .ok (.aload_n 1, 1) := by decide +kernel
theorem dL_678 : decode code 678 = .ok (.aload_n 0, 1) := by decide +kernel
theorem dL_679 : decode code 679 = .ok (.iload_n 3, 1) := by decide +kernel
theorem dL_680 : decode code 680 = .ok (.iconst 1, 1) := by decide +kernel
theorem dL_681 : decode code 681 = .ok (.iadd, 1) := by decide +kernel
theorem dL_682 : decode code 682 = .ok (.iaload, 1) := by decide +kernel
theorem dL_683 : decode code 683 = .ok (.invokevirtual 87, 3) := by decide +kernel
theorem dL_686 : decode code 686 = .ok (.aload_n 2, 1) := by decide +kernel
theorem dL_687 : decode code 687 = .ok (.aload_n 0, 1) := by decide +kernel
theorem dL_688 : decode code 688 = .ok (.iload_n 3, 1) := by decide +kernel
theorem dL_689 : decode code 689 = .ok (.iconst 1, 1) := by decide +kernel
theorem dL_690 : decode code 690 = .ok (.iadd, 1) := by decide +kernel
theorem dL_691 : decode code 691 = .ok (.iaload, 1) := by decide +kernel
theorem dL_692 : decode code 692 = .ok (.invokevirtual 90, 3) := by decide +kernel
theorem dL_695 : decode code 695 = .ok (.if_icmp .eq 81, 3) := by decide +kernel
theorem dL_698 : decode code 698 = .ok (.iconst 0, 1) := by decide +kernel
theorem dL_699 : decode code 699 = .ok (.ireturn, 1) := by decide +kernel
theorem dL_700 : decode code 700 = .ok (.aload_n 1, 1) := by decide +kernel
theorem dL_701 : decode code 701 = .ok (.invokevirtual 91, 3) := by decide +kernel
theorem dL_704 : decode code 704 = .ok (.aload_n 2, 1) := by decide +kernel
theorem dL_705 : decode code 705 = .ok (.invokevirtual 94, 3) := by decide +kernel
theorem dL_708 : decode code 708 = .ok (.if_icmp .eq 68, 3) := by decide +kernel
theorem dL_711 : decode code 711 = .ok (.iconst 0, 1) := by decide +kernel
theorem dL_712 : decode code 712 = .ok (.ireturn, 1) := by decide +kernel
theorem dL_713 : decode code 713 = .ok (.aload_n 1, 1) := by decide +kernel
theorem dL_714 : decode code 714 = .ok (.invokevirtual 95, 3) := by decide +kernel
theorem dL_717 : decode code 717 = .ok (.aload_n 2, 1) := by decide +kernel
theorem dL_718 : decode code 718 = .ok (.invokevirtual 98, 3) := by decide +kernel
theorem dL_721 : decode code 721 = .ok (.if_icmp .eq 55, 3) := by decide +kernel
theorem dL_724 : decode code 724 = .ok (.iconst 0, 1) := by decide +kernel
theorem dL_725 : decode code 725 = .ok (.ireturn, 1) := by decide +kernel
theorem dL_726 : decode code 726 = .ok (.aload_n 1, 1) := by decide +kernel
theorem dL_727 : decode code 727 = .ok (.invokevirtual 99, 3) := by decide +kernel
theorem dL_730 : decode code 730 = .ok (.aload_n 2, 1) := by decide +kernel
theorem dL_731 : decode code 731 = .ok (.invokevirtual 102, 3) := by decide +kernel
theorem dL_734 : decode code 734 = .ok (.if_icmp .eq 42, 3) := by decide +kernel
theorem dL_737 : decode code 737 = .ok (.iconst 0, 1) := by decide +kernel
theorem dL_738 : decode code 738 = .ok (.ireturn, 1) := by decide +kernel
theorem dL_739 : decode code 739 = .ok (.aload_n 1, 1) := by decide +kernel
theorem dL_740 : decode code 740 = .ok (.aload_n 0, 1) := by decide +kernel
theorem dL_741 : decode code 741 = .ok (.iload_n 3, 1) := by decide +kernel
theorem dL_742 : decode code 742 = .ok (.iconst 1, 1) := by decide +kernel
theorem dL_743 : decode code 743 = .ok (.iadd, 1) := by decide +kernel
theorem dL_744 : decode code 744 = .ok (.iaload, 1) := by decide +kernel
theorem dL_745 : decode code 745 = .ok (.invokevirtual 103, 3) := by decide +kernel
theorem dL_748 : decode code 748 = .ok (.aload_n 2, 1) := by decide +kernel
theorem dL_749 : decode code 749 = .ok (.aload_n 0, 1) := by decide +kernel
theorem dL_750 : decode code 750 = .ok (.iload_n 3, 1) := by decide +kernel
theorem dL_751 : decode code 751 = .ok (.iconst 1, 1) := by decide +kernel
theorem dL_752 : decode code 752 = .ok (.iadd, 1) := by decide +kernel
theorem dL_753 : decode code 753 = .ok (.iaload, 1) := by decide +kernel
theorem dL_754 : decode code 754 = .ok (.invokevirtual 106, 3) := by decide +kernel
theorem dL_757 : decode code 757 = .ok (.if_icmp .eq 19, 3) := by decide +kernel
theorem dL_760 : decode code 760 = .ok (.iconst 0, 1) := by decide +kernel
theorem dL_761 : decode code 761 = .ok (.ireturn, 1) := by decide +kernel
theorem dL_762 : decode code 762 = .ok (.aload_n 1, 1) := by decide +kernel
theorem dL_763 : decode code 763 = .ok (.invokevirtual 107, 3) := by decide +kernel
theorem dL_766 : decode code 766 = .ok (.aload_n 2, 1) := by decide +kernel
theorem dL_767 : decode code 767 = .ok (.invokevirtual 111, 3) := by decide +kernel
theorem dL_770 : decode code 770 = .ok (.lcmp, 1) := by decide +kernel
theorem dL_771 : decode code 771 = .ok (.ifCond .eq 5, 3) := by decide +kernel
theorem dL_774 : decode code 774 = .ok (.iconst 0, 1) := by decide +kernel
theorem dL_775 : decode code 775 = .ok (.ireturn, 1) := by decide +kernel
theorem dL_776 : decode code 776 = .ok (.iinc 3 5, 3) := by decide +kernel
theorem dL_779 : decode code 779 = .ok (.goto (-761), 3) := by decide +kernel
theorem dL_782 : decode code 782 = .ok (.iconst 1, 1) := by decide +kernel
theorem dL_783 : decode code 783 = .ok (.ireturn, 1) := by decide +kernel
