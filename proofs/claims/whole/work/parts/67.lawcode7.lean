theorem ld_law_613 : decode code 613 = .ok (.iload 4, 2) := by decide +kernel
theorem ld_law_615 : decode code 615 = .ok (.iconst 1, 1) := by decide +kernel
theorem ld_law_616 : decode code 616 = .ok (.iadd, 1) := by decide +kernel
theorem ld_law_617 : decode code 617 = .ok (.iaload, 1) := by decide +kernel
theorem ld_law_618 : decode code 618 = .ok (.invokevirtual 96, 3) := by decide +kernel
theorem ld_law_621 : decode code 621 = .ok (.if_icmp .eq (129), 3) := by decide +kernel
theorem ld_law_624 : decode code 624 = .ok (.iconst 0, 1) := by decide +kernel
theorem ld_law_625 : decode code 625 = .ok (.ireturn, 1) := by decide +kernel
theorem ld_law_626 : decode code 626 = .ok (.aload_n 1, 1) := by decide +kernel
theorem ld_law_627 : decode code 627 = .ok (.aload_n 0, 1) := by decide +kernel
theorem ld_law_628 : decode code 628 = .ok (.iload 4, 2) := by decide +kernel
theorem ld_law_630 : decode code 630 = .ok (.iconst 1, 1) := by decide +kernel
theorem ld_law_631 : decode code 631 = .ok (.iadd, 1) := by decide +kernel
theorem ld_law_632 : decode code 632 = .ok (.iaload, 1) := by decide +kernel
theorem ld_law_633 : decode code 633 = .ok (.aload_n 0, 1) := by decide +kernel
theorem ld_law_634 : decode code 634 = .ok (.iload 4, 2) := by decide +kernel
theorem ld_law_636 : decode code 636 = .ok (.iconst 2, 1) := by decide +kernel
theorem ld_law_637 : decode code 637 = .ok (.iadd, 1) := by decide +kernel
theorem ld_law_638 : decode code 638 = .ok (.iaload, 1) := by decide +kernel
theorem ld_law_639 : decode code 639 = .ok (.invokevirtual 97, 3) := by decide +kernel
theorem ld_law_642 : decode code 642 = .ok (.aload_n 2, 1) := by decide +kernel
theorem ld_law_643 : decode code 643 = .ok (.aload_n 0, 1) := by decide +kernel
theorem ld_law_644 : decode code 644 = .ok (.iload 4, 2) := by decide +kernel
theorem ld_law_646 : decode code 646 = .ok (.iconst 1, 1) := by decide +kernel
theorem ld_law_647 : decode code 647 = .ok (.iadd, 1) := by decide +kernel
theorem ld_law_648 : decode code 648 = .ok (.iaload, 1) := by decide +kernel
theorem ld_law_649 : decode code 649 = .ok (.aload_n 0, 1) := by decide +kernel
theorem ld_law_650 : decode code 650 = .ok (.iload 4, 2) := by decide +kernel
theorem ld_law_652 : decode code 652 = .ok (.iconst 2, 1) := by decide +kernel
theorem ld_law_653 : decode code 653 = .ok (.iadd, 1) := by decide +kernel
theorem ld_law_654 : decode code 654 = .ok (.iaload, 1) := by decide +kernel
theorem ld_law_655 : decode code 655 = .ok (.invokevirtual 100, 3) := by decide +kernel
theorem ld_law_658 : decode code 658 = .ok (.if_icmp .eq (92), 3) := by decide +kernel
theorem ld_law_661 : decode code 661 = .ok (.iconst 0, 1) := by decide +kernel
theorem ld_law_662 : decode code 662 = .ok (.ireturn, 1) := by decide +kernel
theorem ld_law_663 : decode code 663 = .ok (.aload_n 1, 1) := by decide +kernel
theorem ld_law_664 : decode code 664 = .ok (.aload_n 0, 1) := by decide +kernel
theorem ld_law_665 : decode code 665 = .ok (.iload 4, 2) := by decide +kernel
theorem ld_law_667 : decode code 667 = .ok (.iconst 1, 1) := by decide +kernel
theorem ld_law_668 : decode code 668 = .ok (.iadd, 1) := by decide +kernel
theorem ld_law_669 : decode code 669 = .ok (.iaload, 1) := by decide +kernel
theorem ld_law_670 : decode code 670 = .ok (.aload_n 0, 1) := by decide +kernel
theorem ld_law_671 : decode code 671 = .ok (.iload 4, 2) := by decide +kernel
theorem ld_law_673 : decode code 673 = .ok (.iconst 2, 1) := by decide +kernel
theorem ld_law_674 : decode code 674 = .ok (.iadd, 1) := by decide +kernel
theorem ld_law_675 : decode code 675 = .ok (.iaload, 1) := by decide +kernel
theorem ld_law_676 : decode code 676 = .ok (.invokevirtual 101, 3) := by decide +kernel
theorem ld_law_679 : decode code 679 = .ok (.aload_n 2, 1) := by decide +kernel
theorem ld_law_680 : decode code 680 = .ok (.aload_n 0, 1) := by decide +kernel
theorem ld_law_681 : decode code 681 = .ok (.iload 4, 2) := by decide +kernel
theorem ld_law_683 : decode code 683 = .ok (.iconst 1, 1) := by decide +kernel
theorem ld_law_684 : decode code 684 = .ok (.iadd, 1) := by decide +kernel
theorem ld_law_685 : decode code 685 = .ok (.iaload, 1) := by decide +kernel
theorem ld_law_686 : decode code 686 = .ok (.aload_n 0, 1) := by decide +kernel
theorem ld_law_687 : decode code 687 = .ok (.iload 4, 2) := by decide +kernel
theorem ld_law_689 : decode code 689 = .ok (.iconst 2, 1) := by decide +kernel
theorem ld_law_690 : decode code 690 = .ok (.iadd, 1) := by decide +kernel
theorem ld_law_691 : decode code 691 = .ok (.iaload, 1) := by decide +kernel
theorem ld_law_692 : decode code 692 = .ok (.invokevirtual 104, 3) := by decide +kernel
theorem ld_law_695 : decode code 695 = .ok (.if_icmp .eq (55), 3) := by decide +kernel
