theorem ld_law_698 : decode code 698 = .ok (.iconst 0, 1) := by decide +kernel
theorem ld_law_699 : decode code 699 = .ok (.ireturn, 1) := by decide +kernel
theorem ld_law_700 : decode code 700 = .ok (.aload_n 1, 1) := by decide +kernel
theorem ld_law_701 : decode code 701 = .ok (.aload_n 0, 1) := by decide +kernel
theorem ld_law_702 : decode code 702 = .ok (.iload 4, 2) := by decide +kernel
theorem ld_law_704 : decode code 704 = .ok (.iconst 1, 1) := by decide +kernel
theorem ld_law_705 : decode code 705 = .ok (.iadd, 1) := by decide +kernel
theorem ld_law_706 : decode code 706 = .ok (.iaload, 1) := by decide +kernel
theorem ld_law_707 : decode code 707 = .ok (.invokevirtual 105, 3) := by decide +kernel
theorem ld_law_710 : decode code 710 = .ok (.aload_n 2, 1) := by decide +kernel
theorem ld_law_711 : decode code 711 = .ok (.aload_n 0, 1) := by decide +kernel
theorem ld_law_712 : decode code 712 = .ok (.iload 4, 2) := by decide +kernel
theorem ld_law_714 : decode code 714 = .ok (.iconst 1, 1) := by decide +kernel
theorem ld_law_715 : decode code 715 = .ok (.iadd, 1) := by decide +kernel
theorem ld_law_716 : decode code 716 = .ok (.iaload, 1) := by decide +kernel
theorem ld_law_717 : decode code 717 = .ok (.invokevirtual 108, 3) := by decide +kernel
theorem ld_law_720 : decode code 720 = .ok (.if_icmp .eq (30), 3) := by decide +kernel
theorem ld_law_723 : decode code 723 = .ok (.iconst 0, 1) := by decide +kernel
theorem ld_law_724 : decode code 724 = .ok (.ireturn, 1) := by decide +kernel
theorem ld_law_725 : decode code 725 = .ok (.aload_n 1, 1) := by decide +kernel
theorem ld_law_726 : decode code 726 = .ok (.aload_n 0, 1) := by decide +kernel
theorem ld_law_727 : decode code 727 = .ok (.iload 4, 2) := by decide +kernel
theorem ld_law_729 : decode code 729 = .ok (.iconst 1, 1) := by decide +kernel
theorem ld_law_730 : decode code 730 = .ok (.iadd, 1) := by decide +kernel
theorem ld_law_731 : decode code 731 = .ok (.iaload, 1) := by decide +kernel
theorem ld_law_732 : decode code 732 = .ok (.invokevirtual 109, 3) := by decide +kernel
theorem ld_law_735 : decode code 735 = .ok (.aload_n 2, 1) := by decide +kernel
theorem ld_law_736 : decode code 736 = .ok (.aload_n 0, 1) := by decide +kernel
theorem ld_law_737 : decode code 737 = .ok (.iload 4, 2) := by decide +kernel
theorem ld_law_739 : decode code 739 = .ok (.iconst 1, 1) := by decide +kernel
theorem ld_law_740 : decode code 740 = .ok (.iadd, 1) := by decide +kernel
theorem ld_law_741 : decode code 741 = .ok (.iaload, 1) := by decide +kernel
theorem ld_law_742 : decode code 742 = .ok (.invokevirtual 112, 3) := by decide +kernel
theorem ld_law_745 : decode code 745 = .ok (.if_icmp .eq (5), 3) := by decide +kernel
theorem ld_law_748 : decode code 748 = .ok (.iconst 0, 1) := by decide +kernel
theorem ld_law_749 : decode code 749 = .ok (.ireturn, 1) := by decide +kernel
theorem ld_law_750 : decode code 750 = .ok (.iinc 4 (5), 3) := by decide +kernel
theorem ld_law_753 : decode code 753 = .ok (.goto (-730), 3) := by decide +kernel
theorem ld_law_756 : decode code 756 = .ok (.iconst 1, 1) := by decide +kernel
theorem ld_law_757 : decode code 757 = .ok (.ireturn, 1) := by decide +kernel
