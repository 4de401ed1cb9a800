theorem dl_584 : decode code 584 = .ok (.goto 2115, 3) := by decide +kernel
theorem dl_587 : decode code 587 = .ok (.aload_n 1, 1) := by decide +kernel
theorem dl_588 : decode code 588 = .ok (.aload_n 0, 1) := by decide +kernel
theorem dl_589 : decode code 589 = .ok (.iload 4, 2) := by decide +kernel
theorem dl_591 : decode code 591 = .ok (.iconst 1, 1) := by decide +kernel
theorem dl_592 : decode code 592 = .ok (.iadd, 1) := by decide +kernel
theorem dl_593 : decode code 593 = .ok (.iaload, 1) := by decide +kernel
theorem dl_594 : decode code 594 = .ok (.aload_n 0, 1) := by decide +kernel
theorem dl_595 : decode code 595 = .ok (.iload 4, 2) := by decide +kernel
theorem dl_597 : decode code 597 = .ok (.iconst 2, 1) := by decide +kernel
theorem dl_598 : decode code 598 = .ok (.iadd, 1) := by decide +kernel
theorem dl_599 : decode code 599 = .ok (.iaload, 1) := by decide +kernel
theorem dl_600 : decode code 600 = .ok (.aload_n 0, 1) := by decide +kernel
theorem dl_601 : decode code 601 = .ok (.iload 4, 2) := by decide +kernel
theorem dl_603 : decode code 603 = .ok (.iconst 3, 1) := by decide +kernel
theorem dl_604 : decode code 604 = .ok (.iadd, 1) := by decide +kernel
theorem dl_605 : decode code 605 = .ok (.iaload, 1) := by decide +kernel
theorem dl_606 : decode code 606 = .ok (.aload_n 3, 1) := by decide +kernel
theorem dl_607 : decode code 607 = .ok (.invokestatic 149, 3) := by decide +kernel
theorem dl_610 : decode code 610 = .ok (.istore 5, 2) := by decide +kernel
theorem dl_612 : decode code 612 = .ok (.aload_n 2, 1) := by decide +kernel
theorem dl_613 : decode code 613 = .ok (.aload_n 0, 1) := by decide +kernel
theorem dl_614 : decode code 614 = .ok (.iload 4, 2) := by decide +kernel
theorem dl_616 : decode code 616 = .ok (.iconst 1, 1) := by decide +kernel
theorem dl_617 : decode code 617 = .ok (.iadd, 1) := by decide +kernel
theorem dl_618 : decode code 618 = .ok (.iaload, 1) := by decide +kernel
theorem dl_619 : decode code 619 = .ok (.aload_n 0, 1) := by decide +kernel
theorem dl_620 : decode code 620 = .ok (.iload 4, 2) := by decide +kernel
theorem dl_622 : decode code 622 = .ok (.iconst 2, 1) := by decide +kernel
theorem dl_623 : decode code 623 = .ok (.iadd, 1) := by decide +kernel
theorem dl_624 : decode code 624 = .ok (.iaload, 1) := by decide +kernel
theorem dl_625 : decode code 625 = .ok (.aload_n 0, 1) := by decide +kernel
theorem dl_626 : decode code 626 = .ok (.iload 4, 2) := by decide +kernel
theorem dl_628 : decode code 628 = .ok (.iconst 3, 1) := by decide +kernel
theorem dl_629 : decode code 629 = .ok (.iadd, 1) := by decide +kernel
theorem dl_630 : decode code 630 = .ok (.iaload, 1) := by decide +kernel
theorem dl_631 : decode code 631 = .ok (.invokevirtual 152, 3) := by decide +kernel
theorem dl_634 : decode code 634 = .ok (.istore 6, 2) := by decide +kernel
theorem dl_636 : decode code 636 = .ok (.aload_n 2, 1) := by decide +kernel
theorem dl_637 : decode code 637 = .ok (.invokevirtual 131, 3) := by decide +kernel
theorem dl_640 : decode code 640 = .ok (.iload 5, 2) := by decide +kernel
theorem dl_642 : decode code 642 = .ok (.if_icmp .eq 5, 3) := by decide +kernel
theorem dl_645 : decode code 645 = .ok (.iconst 0, 1) := by decide +kernel
theorem dl_646 : decode code 646 = .ok (.ireturn, 1) := by decide +kernel
theorem dl_647 : decode code 647 = .ok (.iload 5, 2) := by decide +kernel
theorem dl_649 : decode code 649 = .ok (.ifCond .ne 15, 3) := by decide +kernel
theorem dl_652 : decode code 652 = .ok (.aload_n 3, 1) := by decide +kernel
theorem dl_653 : decode code 653 = .ok (.iconst 0, 1) := by decide +kernel
theorem dl_654 : decode code 654 = .ok (.laload, 1) := by decide +kernel
theorem dl_655 : decode code 655 = .ok (.iload 6, 2) := by decide +kernel
theorem dl_657 : decode code 657 = .ok (.i2l, 1) := by decide +kernel
theorem dl_658 : decode code 658 = .ok (.lcmp, 1) := by decide +kernel
theorem dl_659 : decode code 659 = .ok (.ifCond .eq 5, 3) := by decide +kernel
theorem dl_662 : decode code 662 = .ok (.iconst 0, 1) := by decide +kernel
theorem dl_663 : decode code 663 = .ok (.ireturn, 1) := by decide +kernel
theorem dl_664 : decode code 664 = .ok (.goto 2035, 3) := by decide +kernel
theorem dl_667 : decode code 667 = .ok (.aload_n 1, 1) := by decide +kernel
theorem dl_668 : decode code 668 = .ok (.aload_n 0, 1) := by decide +kernel
theorem dl_669 : decode code 669 = .ok (.iload 4, 2) := by decide +kernel
theorem dl_671 : decode code 671 = .ok (.iconst 1, 1) := by decide +kernel
theorem dl_672 : decode code 672 = .ok (.iadd, 1) := by decide +kernel
theorem dl_673 : decode code 673 = .ok (.iaload, 1) := by decide +kernel
theorem dl_674 : decode code 674 = .ok (.aload_n 0, 1) := by decide +kernel
theorem dl_675 : decode code 675 = .ok (.iload 4, 2) := by decide +kernel
theorem dl_677 : decode code 677 = .ok (.iconst 2, 1) := by decide +kernel
theorem dl_678 : decode code 678 = .ok (.iadd, 1) := by decide +kernel
theorem dl_679 : decode code 679 = .ok (.iaload, 1) := by decide +kernel
theorem dl_680 : decode code 680 = .ok (.aload_n 0, 1) := by decide +kernel
theorem dl_681 : decode code 681 = .ok (.iload 4, 2) := by decide +kernel
theorem dl_683 : decode code 683 = .ok (.iconst 3, 1) := by decide +kernel
theorem dl_684 : decode code 684 = .ok (.iadd, 1) := by decide +kernel
theorem dl_685 : decode code 685 = .ok (.iaload, 1) := by decide +kernel
theorem dl_686 : decode code 686 = .ok (.aload_n 3, 1) := by decide +kernel
theorem dl_687 : decode code 687 = .ok (.invokestatic 153, 3) := by decide +kernel
theorem dl_690 : decode code 690 = .ok (.istore 5, 2) := by decide +kernel
theorem dl_692 : decode code 692 = .ok (.aload_n 2, 1) := by decide +kernel
theorem dl_693 : decode code 693 = .ok (.aload_n 0, 1) := by decide +kernel
theorem dl_694 : decode code 694 = .ok (.iload 4, 2) := by decide +kernel
theorem dl_696 : decode code 696 = .ok (.iconst 1, 1) := by decide +kernel
theorem dl_697 : decode code 697 = .ok (.iadd, 1) := by decide +kernel
theorem dl_698 : decode code 698 = .ok (.iaload, 1) := by decide +kernel
theorem dl_699 : decode code 699 = .ok (.aload_n 0, 1) := by decide +kernel
theorem dl_700 : decode code 700 = .ok (.iload 4, 2) := by decide +kernel
theorem dl_702 : decode code 702 = .ok (.iconst 2, 1) := by decide +kernel
theorem dl_703 : decode code 703 = .ok (.iadd, 1) := by decide +kernel
theorem dl_704 : decode code 704 = .ok (.iaload, 1) := by decide +kernel
theorem dl_705 : decode code 705 = .ok (.aload_n 0, 1) := by decide +kernel
theorem dl_706 : decode code 706 = .ok (.iload 4, 2) := by decide +kernel
theorem dl_708 : decode code 708 = .ok (.iconst 3, 1) := by decide +kernel
theorem dl_709 : decode code 709 = .ok (.iadd, 1) := by decide +kernel
theorem dl_710 : decode code 710 = .ok (.iaload, 1) := by decide +kernel
theorem dl_711 : decode code 711 = .ok (.invokevirtual 155, 3) := by decide +kernel
theorem dl_714 : decode code 714 = .ok (.istore 6, 2) := by decide +kernel
theorem dl_716 : decode code 716 = .ok (.aload_n 2, 1) := by decide +kernel
theorem dl_717 : decode code 717 = .ok (.invokevirtual 131, 3) := by decide +kernel
theorem dl_720 : decode code 720 = .ok (.iload 5, 2) := by decide +kernel
theorem dl_722 : decode code 722 = .ok (.if_icmp .eq 5, 3) := by decide +kernel
theorem dl_725 : decode code 725 = .ok (.iconst 0, 1) := by decide +kernel
theorem dl_726 : decode code 726 = .ok (.ireturn, 1) := by decide +kernel
theorem dl_727 : decode code 727 = .ok (.iload 5, 2) := by decide +kernel
theorem dl_729 : decode code 729 = .ok (.ifCond .ne 15, 3) := by decide +kernel
theorem dl_732 : decode code 732 = .ok (.aload_n 3, 1) := by decide +kernel
theorem dl_733 : decode code 733 = .ok (.iconst 0, 1) := by decide +kernel
theorem dl_734 : decode code 734 = .ok (.laload, 1) := by decide +kernel
theorem dl_735 : decode code 735 = .ok (.iload 6, 2) := by decide +kernel
theorem dl_737 : decode code 737 = .ok (.i2l, 1) := by decide +kernel
theorem dl_738 : decode code 738 = .ok (.lcmp, 1) := by decide +kernel
theorem dl_739 : decode code 739 = .ok (.ifCond .eq 5, 3) := by decide +kernel
theorem dl_742 : decode code 742 = .ok (.iconst 0, 1) := by decide +kernel
theorem dl_743 : decode code 743 = .ok (.ireturn, 1) := by decide +kernel
