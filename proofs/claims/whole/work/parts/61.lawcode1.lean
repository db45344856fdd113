theorem ld_law_0 : decode code 0 = .ok (.new 8, 3) := by decide +kernel
theorem ld_law_3 : decode code 3 = .ok (.dup, 1) := by decide +kernel
theorem ld_law_4 : decode code 4 = .ok (.invokespecial 38, 3) := by decide +kernel
theorem ld_law_7 : decode code 7 = .ok (.astore_n 1, 1) := by decide +kernel
theorem ld_law_8 : decode code 8 = .ok (.new 39, 3) := by decide +kernel
theorem ld_law_11 : decode code 11 = .ok (.dup, 1) := by decide +kernel
theorem ld_law_12 : decode code 12 = .ok (.invokespecial 41, 3) := by decide +kernel
theorem ld_law_15 : decode code 15 = .ok (.astore_n 2, 1) := by decide +kernel
theorem ld_law_16 : decode code 16 = .ok (.iconst 1, 1) := by decide +kernel
theorem ld_law_17 : decode code 17 = .ok (.newarray .long, 2) := by decide +kernel
theorem ld_law_19 : decode code 19 = .ok (.astore_n 3, 1) := by decide +kernel
theorem ld_law_20 : decode code 20 = .ok (.iconst 0, 1) := by decide +kernel
theorem ld_law_21 : decode code 21 = .ok (.istore 4, 2) := by decide +kernel
theorem ld_law_23 : decode code 23 = .ok (.iload 4, 2) := by decide +kernel
theorem ld_law_25 : decode code 25 = .ok (.aload_n 0, 1) := by decide +kernel
theorem ld_law_26 : decode code 26 = .ok (.arraylength, 1) := by decide +kernel
theorem ld_law_27 : decode code 27 = .ok (.iconst 5, 1) := by decide +kernel
theorem ld_law_28 : decode code 28 = .ok (.isub, 1) := by decide +kernel
theorem ld_law_29 : decode code 29 = .ok (.if_icmp .gt (727), 3) := by decide +kernel
theorem ld_law_32 : decode code 32 = .ok (.aload_n 0, 1) := by decide +kernel
theorem ld_law_33 : decode code 33 = .ok (.iload 4, 2) := by decide +kernel
theorem ld_law_35 : decode code 35 = .ok (.iaload, 1) := by decide +kernel
theorem ld_law_36 : decode code 36 = .ok (.bipush (15), 2) := by decide +kernel
theorem ld_law_38 : decode code 38 = .ok (.iand, 1) := by decide +kernel
theorem ld_law_39 : decode code 39 = .ok (.tableswitch (711) (0) (15) #[77, 125, 138, 198, 223, 248, 316, 341, 389, 481, 537, 562, 587, 624, 661, 686], 77) := by decide +kernel
theorem ld_law_116 : decode code 116 = .ok (.aload_n 1, 1) := by decide +kernel
theorem ld_law_117 : decode code 117 = .ok (.aload_n 0, 1) := by decide +kernel
theorem ld_law_118 : decode code 118 = .ok (.iload 4, 2) := by decide +kernel
theorem ld_law_120 : decode code 120 = .ok (.iconst 1, 1) := by decide +kernel
theorem ld_law_121 : decode code 121 = .ok (.iadd, 1) := by decide +kernel
theorem ld_law_122 : decode code 122 = .ok (.iaload, 1) := by decide +kernel
theorem ld_law_123 : decode code 123 = .ok (.aload_n 0, 1) := by decide +kernel
theorem ld_law_124 : decode code 124 = .ok (.iload 4, 2) := by decide +kernel
theorem ld_law_126 : decode code 126 = .ok (.iconst 2, 1) := by decide +kernel
theorem ld_law_127 : decode code 127 = .ok (.iadd, 1) := by decide +kernel
theorem ld_law_128 : decode code 128 = .ok (.iaload, 1) := by decide +kernel
theorem ld_law_129 : decode code 129 = .ok (.invokestatic 42, 3) := by decide +kernel
theorem ld_law_132 : decode code 132 = .ok (.istore 5, 2) := by decide +kernel
theorem ld_law_134 : decode code 134 = .ok (.aload_n 2, 1) := by decide +kernel
theorem ld_law_135 : decode code 135 = .ok (.aload_n 0, 1) := by decide +kernel
theorem ld_law_136 : decode code 136 = .ok (.iload 4, 2) := by decide +kernel
theorem ld_law_138 : decode code 138 = .ok (.iconst 1, 1) := by decide +kernel
theorem ld_law_139 : decode code 139 = .ok (.iadd, 1) := by decide +kernel
theorem ld_law_140 : decode code 140 = .ok (.iaload, 1) := by decide +kernel
theorem ld_law_141 : decode code 141 = .ok (.aload_n 0, 1) := by decide +kernel
theorem ld_law_142 : decode code 142 = .ok (.iload 4, 2) := by decide +kernel
theorem ld_law_144 : decode code 144 = .ok (.iconst 2, 1) := by decide +kernel
theorem ld_law_145 : decode code 145 = .ok (.iadd, 1) := by decide +kernel
theorem ld_law_146 : decode code 146 = .ok (.iaload, 1) := by decide +kernel
theorem ld_law_147 : decode code 147 = .ok (.invokevirtual 47, 3) := by decide +kernel
theorem ld_law_150 : decode code 150 = .ok (.aload_n 2, 1) := by decide +kernel
theorem ld_law_151 : decode code 151 = .ok (.invokevirtual 48, 3) := by decide +kernel
theorem ld_law_154 : decode code 154 = .ok (.iload 5, 2) := by decide +kernel
theorem ld_law_156 : decode code 156 = .ok (.if_icmp .eq (5), 3) := by decide +kernel
theorem ld_law_159 : decode code 159 = .ok (.iconst 0, 1) := by decide +kernel
theorem ld_law_160 : decode code 160 = .ok (.ireturn, 1) := by decide +kernel
theorem ld_law_161 : decode code 161 = .ok (.goto (589), 3) := by decide +kernel
theorem ld_law_164 : decode code 164 = .ok (.aload_n 1, 1) := by decide +kernel
theorem ld_law_165 : decode code 165 = .ok (.invokevirtual 52, 3) := by decide +kernel
theorem ld_law_168 : decode code 168 = .ok (.aload_n 2, 1) := by decide +kernel
