theorem dX9_init_47 : decode cX9_init 47 = .ok (.newarray .int, 2) := by decide +kernel
theorem dX9_init_49 : decode cX9_init 49 = .ok (.putfield 25, 3) := by decide +kernel
theorem dX9_init_52 : decode cX9_init 52 = .ok (.aload_n 0, 1) := by decide +kernel
theorem dX9_init_53 : decode cX9_init 53 = .ok (.bipush 6, 2) := by decide +kernel
theorem dX9_init_55 : decode cX9_init 55 = .ok (.newarray .int, 2) := by decide +kernel
theorem dX9_init_57 : decode cX9_init 57 = .ok (.putfield 28, 3) := by decide +kernel
theorem dX9_init_60 : decode cX9_init 60 = .ok (.aload_n 0, 1) := by decide +kernel
theorem dX9_init_61 : decode cX9_init 61 = .ok (.bipush 6, 2) := by decide +kernel
theorem dX9_init_63 : decode cX9_init 63 = .ok (.newarray .int, 2) := by decide +kernel
theorem dX9_init_65 : decode cX9_init 65 = .ok (.putfield 31, 3) := by decide +kernel
theorem dX9_init_68 : decode cX9_init 68 = .ok (.aload_n 0, 1) := by decide +kernel
theorem dX9_init_69 : decode cX9_init 69 = .ok (.bipush 96, 2) := by decide +kernel
theorem dX9_init_71 : decode cX9_init 71 = .ok (.newarray .int, 2) := by decide +kernel
theorem dX9_init_73 : decode cX9_init 73 = .ok (.putfield 34, 3) := by decide +kernel
theorem dX9_init_76 : decode cX9_init 76 = .ok (.aload_n 0, 1) := by decide +kernel
theorem dX9_init_77 : decode cX9_init 77 = .ok (.bipush 48, 2) := by decide +kernel
theorem dX9_init_79 : decode cX9_init 79 = .ok (.newarray .int, 2) := by decide +kernel
theorem dX9_init_81 : decode cX9_init 81 = .ok (.putfield 37, 3) := by decide +kernel
theorem dX9_init_84 : decode cX9_init 84 = .ok (.aload_n 0, 1) := by decide +kernel
theorem dX9_init_85 : decode cX9_init 85 = .ok (.bipush 48, 2) := by decide +kernel
theorem dX9_init_87 : decode cX9_init 87 = .ok (.newarray .int, 2) := by decide +kernel
theorem dX9_init_89 : decode cX9_init 89 = .ok (.putfield 40, 3) := by decide +kernel
theorem dX9_init_92 : decode cX9_init 92 = .ok (.aload_n 0, 1) := by decide +kernel
theorem dX9_init_93 : decode cX9_init 93 = .ok (.sipush 144, 3) := by decide +kernel
theorem dX9_init_96 : decode cX9_init 96 = .ok (.newarray .int, 2) := by decide +kernel
theorem dX9_init_98 : decode cX9_init 98 = .ok (.putfield 43, 3) := by decide +kernel
theorem dX9_init_101 : decode cX9_init 101 = .ok (.aload_n 0, 1) := by decide +kernel
theorem dX9_init_102 : decode cX9_init 102 = .ok (.sipush 825, 3) := by decide +kernel
theorem dX9_init_105 : decode cX9_init 105 = .ok (.newarray .int, 2) := by decide +kernel
theorem dX9_init_107 : decode cX9_init 107 = .ok (.putfield 46, 3) := by decide +kernel
theorem dX9_init_110 : decode cX9_init 110 = .ok (.aload_n 0, 1) := by decide +kernel
theorem dX9_init_111 : decode cX9_init 111 = .ok (.bipush 6, 2) := by decide +kernel
theorem dX9_init_113 : decode cX9_init 113 = .ok (.newarray .int, 2) := by decide +kernel
theorem dX9_init_115 : decode cX9_init 115 = .ok (.putfield 49, 3) := by decide +kernel
theorem dX9_init_118 : decode cX9_init 118 = .ok (.aload_n 0, 1) := by decide +kernel
theorem dX9_init_119 : decode cX9_init 119 = .ok (.bipush 64, 2) := by decide +kernel
theorem dX9_init_121 : decode cX9_init 121 = .ok (.newarray .int, 2) := by decide +kernel
theorem dX9_init_123 : decode cX9_init 123 = .ok (.putfield 52, 3) := by decide +kernel
theorem dX9_init_126 : decode cX9_init 126 = .ok (.aload_n 0, 1) := by decide +kernel
theorem dX9_init_127 : decode cX9_init 127 = .ok (.bipush 12, 2) := by decide +kernel
theorem dX9_init_129 : decode cX9_init 129 = .ok (.newarray .int, 2) := by decide +kernel
theorem dX9_init_131 : decode cX9_init 131 = .ok (.putfield 55, 3) := by decide +kernel
theorem dX9_init_134 : decode cX9_init 134 = .ok (.aload_n 0, 1) := by decide +kernel
theorem dX9_init_135 : decode cX9_init 135 = .ok (.iconst 0, 1) := by decide +kernel
theorem dX9_init_136 : decode cX9_init 136 = .ok (.putfield 58, 3) := by decide +kernel
theorem dX9_init_139 : decode cX9_init 139 = .ok (.return_, 1) := by decide +kernel
theorem dX9_no_0 : decode cX9_no 0 = .ok (.aload_n 0, 1) := by decide +kernel
theorem dX9_no_1 : decode cX9_no 1 = .ok (.getfield 7, 3) := by decide +kernel
theorem dX9_no_4 : decode cX9_no 4 = .ok (.iload_n 1, 1) := by decide +kernel
theorem dX9_no_5 : decode cX9_no 5 = .ok (.ineg, 1) := by decide +kernel
theorem dX9_no_6 : decode cX9_no 6 = .ok (.dup2, 1) := by decide +kernel
theorem dX9_no_7 : decode cX9_no 7 = .ok (.iaload, 1) := by decide +kernel
theorem dX9_no_8 : decode cX9_no 8 = .ok (.iconst 1, 1) := by decide +kernel
theorem dX9_no_9 : decode cX9_no 9 = .ok (.iadd, 1) := by decide +kernel
theorem dX9_no_10 : decode cX9_no 10 = .ok (.iastore, 1) := by decide +kernel
theorem dX9_no_11 : decode cX9_no 11 = .ok (.iload_n 1, 1) := by decide +kernel
theorem dX9_no_12 : decode cX9_no 12 = .ok (.ireturn, 1) := by decide +kernel
theorem dX9_lower_0 : decode cX9_lower 0 = .ok (.aload_n 0, 1) := by decide +kernel
theorem dX9_lower_1 : decode cX9_lower 1 = .ok (.getfield 7, 3) := by decide +kernel
theorem dX9_lower_4 : decode cX9_lower 4 = .ok (.iload_n 1, 1) := by decide +kernel
theorem dX9_lower_5 : decode cX9_lower 5 = .ok (.ineg, 1) := by decide +kernel
theorem dX9_lower_6 : decode cX9_lower 6 = .ok (.dup2, 1) := by decide +kernel
theorem dX9_lower_7 : decode cX9_lower 7 = .ok (.iaload, 1) := by decide +kernel
theorem dX9_lower_8 : decode cX9_lower 8 = .ok (.iconst 1, 1) := by decide +kernel
theorem dX9_lower_9 : decode cX9_lower 9 = .ok (.iadd, 1) := by decide +kernel
theorem dX9_lower_10 : decode cX9_lower 10 = .ok (.iastore, 1) := by decide +kernel
theorem dX9_lower_11 : decode cX9_lower 11 = .ok (.ldc 62, 2) := by decide +kernel
theorem dX9_lower_13 : decode cX9_lower 13 = .ok (.iload_n 1, 1) := by decide +kernel
theorem dX9_lower_14 : decode cX9_lower 14 = .ok (.isub, 1) := by decide +kernel
theorem dX9_lower_15 : decode cX9_lower 15 = .ok (.ireturn, 1) := by decide +kernel
theorem dX9_lowestOf_0 : decode cX9_lowestOf 0 = .ok (.aload_n 0, 1) := by decide +kernel
theorem dX9_lowestOf_1 : decode cX9_lowestOf 1 = .ok (.getfield 7, 3) := by decide +kernel
theorem dX9_lowestOf_4 : decode cX9_lowestOf 4 = .ok (.iload_n 1, 1) := by decide +kernel
theorem dX9_lowestOf_5 : decode cX9_lowestOf 5 = .ok (.ineg, 1) := by decide +kernel
theorem dX9_lowestOf_6 : decode cX9_lowestOf 6 = .ok (.dup2, 1) := by decide +kernel
theorem dX9_lowestOf_7 : decode cX9_lowestOf 7 = .ok (.iaload, 1) := by decide +kernel
theorem dX9_lowestOf_8 : decode cX9_lowestOf 8 = .ok (.iconst 1, 1) := by decide +kernel
theorem dX9_lowestOf_9 : decode cX9_lowestOf 9 = .ok (.iadd, 1) := by decide +kernel
theorem dX9_lowestOf_10 : decode cX9_lowestOf 10 = .ok (.iastore, 1) := by decide +kernel
theorem dX9_lowestOf_11 : decode cX9_lowestOf 11 = .ok (.ldc2_w 63, 3) := by decide +kernel
theorem dX9_lowestOf_14 : decode cX9_lowestOf 14 = .ok (.iload_n 1, 1) := by decide +kernel
theorem dX9_lowestOf_15 : decode cX9_lowestOf 15 = .ok (.i2l, 1) := by decide +kernel
theorem dX9_lowestOf_16 : decode cX9_lowestOf 16 = .ok (.lsub, 1) := by decide +kernel
theorem dX9_lowestOf_17 : decode cX9_lowestOf 17 = .ok (.lreturn, 1) := by decide +kernel
theorem dX9_isIn_0 : decode cX9_isIn 0 = .ok (.iload_n 0, 1) := by decide +kernel
theorem dX9_isIn_1 : decode cX9_isIn 1 = .ok (.iload_n 1, 1) := by decide +kernel
theorem dX9_isIn_2 : decode cX9_isIn 2 = .ok (.if_icmp .lt 12, 3) := by decide +kernel
theorem dX9_isIn_5 : decode cX9_isIn 5 = .ok (.iload_n 0, 1) := by decide +kernel
theorem dX9_isIn_6 : decode cX9_isIn 6 = .ok (.iload_n 2, 1) := by decide +kernel
theorem dX9_isIn_7 : decode cX9_isIn 7 = .ok (.if_icmp .gt 7, 3) := by decide +kernel
theorem dX9_isIn_10 : decode cX9_isIn 10 = .ok (.iconst 1, 1) := by decide +kernel
theorem dX9_isIn_11 : decode cX9_isIn 11 = .ok (.goto 4, 3) := by decide +kernel
theorem dX9_isIn_14 : decode cX9_isIn 14 = .ok (.iconst 0, 1) := by decide +kernel
theorem dX9_isIn_15 : decode cX9_isIn 15 = .ok (.ireturn, 1) := by decide +kernel
theorem dX9_bound_0 : decode cX9_bound 0 = .ok (.iload_n 0, 1) := by decide +kernel
theorem dX9_bound_1 : decode cX9_bound 1 = .ok (.iload_n 1, 1) := by decide +kernel
theorem dX9_bound_2 : decode cX9_bound 2 = .ok (.if_icmp .ge 8, 3) := by decide +kernel
theorem dX9_bound_5 : decode cX9_bound 5 = .ok (.bipush (-4), 2) := by decide +kernel
theorem dX9_bound_7 : decode cX9_bound 7 = .ok (.goto 14, 3) := by decide +kernel
theorem dX9_bound_10 : decode cX9_bound 10 = .ok (.iload_n 0, 1) := by decide +kernel
theorem dX9_bound_11 : decode cX9_bound 11 = .ok (.iload_n 2, 1) := by decide +kernel
theorem dX9_bound_12 : decode cX9_bound 12 = .ok (.if_icmp .le 8, 3) := by decide +kernel
theorem dX9_bound_15 : decode cX9_bound 15 = .ok (.bipush (-6), 2) := by decide +kernel
theorem dX9_bound_17 : decode cX9_bound 17 = .ok (.goto 4, 3) := by decide +kernel
theorem dX9_bound_20 : decode cX9_bound 20 = .ok (.iconst 0, 1) := by decide +kernel
theorem dX9_bound_21 : decode cX9_bound 21 = .ok (.ireturn, 1) := by decide +kernel
theorem dX9_held_0 : decode cX9_held 0 = .ok (.iload_n 0, 1) := by decide +kernel
theorem dX9_held_1 : decode cX9_held 1 = .ok (.iload_n 1, 1) := by decide +kernel
theorem dX9_held_2 : decode cX9_held 2 = .ok (.if_icmp .ge 7, 3) := by decide +kernel
theorem dX9_held_5 : decode cX9_held 5 = .ok (.iload_n 1, 1) := by decide +kernel
theorem dX9_held_6 : decode cX9_held 6 = .ok (.goto 13, 3) := by decide +kernel
theorem dX9_held_9 : decode cX9_held 9 = .ok (.iload_n 0, 1) := by decide +kernel
theorem dX9_held_10 : decode cX9_held 10 = .ok (.iload_n 2, 1) := by decide +kernel
theorem dX9_held_11 : decode cX9_held 11 = .ok (.if_icmp .le 7, 3) := by decide +kernel
theorem dX9_held_14 : decode cX9_held 14 = .ok (.iload_n 2, 1) := by decide +kernel
theorem dX9_held_15 : decode cX9_held 15 = .ok (.goto 4, 3) := by decide +kernel
theorem dX9_held_18 : decode cX9_held 18 = .ok (.iload_n 0, 1) := by decide +kernel
theorem dX9_held_19 : decode cX9_held 19 = .ok (.ireturn, 1) := by decide +kernel
theorem dX9_has_0 : decode cX9_has 0 = .ok (.iload_n 0, 1) := by decide +kernel
theorem dX9_has_1 : decode cX9_has 1 = .ok (.iload_n 1, 1) := by decide +kernel
theorem dX9_has_2 : decode cX9_has 2 = .ok (.ishr, 1) := by decide +kernel
theorem dX9_has_3 : decode cX9_has 3 = .ok (.iconst 1, 1) := by decide +kernel
theorem dX9_has_4 : decode cX9_has 4 = .ok (.iand, 1) := by decide +kernel
theorem dX9_has_5 : decode cX9_has 5 = .ok (.iconst 1, 1) := by decide +kernel
theorem dX9_has_6 : decode cX9_has 6 = .ok (.if_icmp .ne 7, 3) := by decide +kernel
theorem dX9_has_9 : decode cX9_has 9 = .ok (.iconst 1, 1) := by decide +kernel
theorem dX9_has_10 : decode cX9_has 10 = .ok (.goto 4, 3) := by decide +kernel
theorem dX9_has_13 : decode cX9_has 13 = .ok (.iconst 0, 1) := by decide +kernel
theorem dX9_has_14 : decode cX9_has 14 = .ok (.ireturn, 1) := by decide +kernel
theorem dX9_bits_0 : decode cX9_bits 0 = .ok (.iconst 0, 1) := by decide +kernel
theorem dX9_bits_1 : decode cX9_bits 1 = .ok (.istore_n 1, 1) := by decide +kernel
theorem dX9_bits_2 : decode cX9_bits 2 = .ok (.iconst 0, 1) := by decide +kernel
theorem dX9_bits_3 : decode cX9_bits 3 = .ok (.istore_n 2, 1) := by decide +kernel
theorem dX9_bits_4 : decode cX9_bits 4 = .ok (.iload_n 2, 1) := by decide +kernel
theorem dX9_bits_5 : decode cX9_bits 5 = .ok (.bipush 31, 2) := by decide +kernel
theorem dX9_bits_7 : decode cX9_bits 7 = .ok (.if_icmp .ge 17, 3) := by decide +kernel
theorem dX9_bits_10 : decode cX9_bits 10 = .ok (.iload_n 1, 1) := by decide +kernel
theorem dX9_bits_11 : decode cX9_bits 11 = .ok (.iload_n 0, 1) := by decide +kernel
theorem dX9_bits_12 : decode cX9_bits 12 = .ok (.iload_n 2, 1) := by decide +kernel
theorem dX9_bits_13 : decode cX9_bits 13 = .ok (.ishr, 1) := by decide +kernel
theorem dX9_bits_14 : decode cX9_bits 14 = .ok (.iconst 1, 1) := by decide +kernel
theorem dX9_bits_15 : decode cX9_bits 15 = .ok (.iand, 1) := by decide +kernel
theorem dX9_bits_16 : decode cX9_bits 16 = .ok (.iadd, 1) := by decide +kernel
theorem dX9_bits_17 : decode cX9_bits 17 = .ok (.istore_n 1, 1) := by decide +kernel
theorem dX9_bits_18 : decode cX9_bits 18 = .ok (.iinc 2 1, 3) := by decide +kernel
theorem dX9_bits_21 : decode cX9_bits 21 = .ok (.goto (-17), 3) := by decide +kernel
theorem dX9_bits_24 : decode cX9_bits 24 = .ok (.iload_n 1, 1) := by decide +kernel
theorem dX9_bits_25 : decode cX9_bits 25 = .ok (.ireturn, 1) := by decide +kernel
theorem dX9_isKeeper_0 : decode cX9_isKeeper 0 = .ok (.iload_n 1, 1) := by decide +kernel
theorem dX9_isKeeper_1 : decode cX9_isKeeper 1 = .ok (.ifCond .lt 15, 3) := by decide +kernel
theorem dX9_isKeeper_4 : decode cX9_isKeeper 4 = .ok (.iload_n 1, 1) := by decide +kernel
theorem dX9_isKeeper_5 : decode cX9_isKeeper 5 = .ok (.aload_n 0, 1) := by decide +kernel
theorem dX9_isKeeper_6 : decode cX9_isKeeper 6 = .ok (.getfield 65, 3) := by decide +kernel
theorem dX9_isKeeper_9 : decode cX9_isKeeper 9 = .ok (.if_icmp .ge 7, 3) := by decide +kernel
theorem dX9_isKeeper_12 : decode cX9_isKeeper 12 = .ok (.iconst 1, 1) := by decide +kernel
theorem dX9_isKeeper_13 : decode cX9_isKeeper 13 = .ok (.goto 4, 3) := by decide +kernel
theorem dX9_isKeeper_16 : decode cX9_isKeeper 16 = .ok (.iconst 0, 1) := by decide +kernel
theorem dX9_isKeeper_17 : decode cX9_isKeeper 17 = .ok (.ireturn, 1) := by decide +kernel
theorem dX9_areTwo_0 : decode cX9_areTwo 0 = .ok (.aload_n 0, 1) := by decide +kernel
theorem dX9_areTwo_1 : decode cX9_areTwo 1 = .ok (.iload_n 1, 1) := by decide +kernel
theorem dX9_areTwo_2 : decode cX9_areTwo 2 = .ok (.invokevirtual 68, 3) := by decide +kernel
theorem dX9_areTwo_5 : decode cX9_areTwo 5 = .ok (.ifCond .eq 20, 3) := by decide +kernel
theorem dX9_areTwo_8 : decode cX9_areTwo 8 = .ok (.aload_n 0, 1) := by decide +kernel
theorem dX9_areTwo_9 : decode cX9_areTwo 9 = .ok (.iload_n 2, 1) := by decide +kernel
theorem dX9_areTwo_10 : decode cX9_areTwo 10 = .ok (.invokevirtual 68, 3) := by decide +kernel
theorem dX9_areTwo_13 : decode cX9_areTwo 13 = .ok (.ifCond .eq 12, 3) := by decide +kernel
theorem dX9_areTwo_16 : decode cX9_areTwo 16 = .ok (.iload_n 1, 1) := by decide +kernel
theorem dX9_areTwo_17 : decode cX9_areTwo 17 = .ok (.iload_n 2, 1) := by decide +kernel
theorem dX9_areTwo_18 : decode cX9_areTwo 18 = .ok (.if_icmp .eq 7, 3) := by decide +kernel
theorem dX9_areTwo_21 : decode cX9_areTwo 21 = .ok (.iconst 1, 1) := by decide +kernel
theorem dX9_areTwo_22 : decode cX9_areTwo 22 = .ok (.goto 4, 3) := by decide +kernel
theorem dX9_areTwo_25 : decode cX9_areTwo 25 = .ok (.iconst 0, 1) := by decide +kernel
theorem dX9_areTwo_26 : decode cX9_areTwo 26 = .ok (.ireturn, 1) := by decide +kernel
theorem dX9_isLetter_0 : decode cX9_isLetter 0 = .ok (.iload_n 1, 1) := by decide +kernel
theorem dX9_isLetter_1 : decode cX9_isLetter 1 = .ok (.ifCond .lt 15, 3) := by decide +kernel
theorem dX9_isLetter_4 : decode cX9_isLetter 4 = .ok (.iload_n 1, 1) := by decide +kernel
theorem dX9_isLetter_5 : decode cX9_isLetter 5 = .ok (.aload_n 0, 1) := by decide +kernel
theorem dX9_isLetter_6 : decode cX9_isLetter 6 = .ok (.getfield 58, 3) := by decide +kernel
theorem dX9_isLetter_9 : decode cX9_isLetter 9 = .ok (.if_icmp .ge 7, 3) := by decide +kernel
theorem dX9_isLetter_12 : decode cX9_isLetter 12 = .ok (.iconst 1, 1) := by decide +kernel
theorem dX9_isLetter_13 : decode cX9_isLetter 13 = .ok (.goto 4, 3) := by decide +kernel
theorem dX9_isLetter_16 : decode cX9_isLetter 16 = .ok (.iconst 0, 1) := by decide +kernel
theorem dX9_isLetter_17 : decode cX9_isLetter 17 = .ok (.ireturn, 1) := by decide +kernel
theorem dX9_isTown_0 : decode cX9_isTown 0 = .ok (.iload_n 0, 1) := by decide +kernel
theorem dX9_isTown_1 : decode cX9_isTown 1 = .ok (.ifCond .lt 12, 3) := by decide +kernel
theorem dX9_isTown_4 : decode cX9_isTown 4 = .ok (.iload_n 0, 1) := by decide +kernel
theorem dX9_isTown_5 : decode cX9_isTown 5 = .ok (.iconst 4, 1) := by decide +kernel
theorem dX9_isTown_6 : decode cX9_isTown 6 = .ok (.if_icmp .ge 7, 3) := by decide +kernel
theorem dX9_isTown_9 : decode cX9_isTown 9 = .ok (.iconst 1, 1) := by decide +kernel
theorem dX9_isTown_10 : decode cX9_isTown 10 = .ok (.goto 4, 3) := by decide +kernel
theorem dX9_isTown_13 : decode cX9_isTown 13 = .ok (.iconst 0, 1) := by decide +kernel
theorem dX9_isTown_14 : decode cX9_isTown 14 = .ok (.ireturn, 1) := by decide +kernel
theorem dX9_hateOf_0 : decode cX9_hateOf 0 = .ok (.aload_n 0, 1) := by decide +kernel
theorem dX9_hateOf_1 : decode cX9_hateOf 1 = .ok (.getfield 22, 3) := by decide +kernel
theorem dX9_hateOf_4 : decode cX9_hateOf 4 = .ok (.bipush 6, 2) := by decide +kernel
theorem dX9_hateOf_6 : decode cX9_hateOf 6 = .ok (.iload_n 1, 1) := by decide +kernel
theorem dX9_hateOf_7 : decode cX9_hateOf 7 = .ok (.imul, 1) := by decide +kernel
theorem dX9_hateOf_8 : decode cX9_hateOf 8 = .ok (.iload_n 2, 1) := by decide +kernel
theorem dX9_hateOf_9 : decode cX9_hateOf 9 = .ok (.iadd, 1) := by decide +kernel
theorem dX9_hateOf_10 : decode cX9_hateOf 10 = .ok (.iaload, 1) := by decide +kernel
theorem dX9_hateOf_11 : decode cX9_hateOf 11 = .ok (.ireturn, 1) := by decide +kernel
theorem dX9_sets_0 : decode cX9_sets 0 = .ok (.aload_n 0, 1) := by decide +kernel
theorem dX9_sets_1 : decode cX9_sets 1 = .ok (.getfield 22, 3) := by decide +kernel
theorem dX9_sets_4 : decode cX9_sets 4 = .ok (.bipush 6, 2) := by decide +kernel
theorem dX9_sets_6 : decode cX9_sets 6 = .ok (.iload_n 1, 1) := by decide +kernel
theorem dX9_sets_7 : decode cX9_sets 7 = .ok (.imul, 1) := by decide +kernel
theorem dX9_sets_8 : decode cX9_sets 8 = .ok (.iload_n 2, 1) := by decide +kernel
theorem dX9_sets_9 : decode cX9_sets 9 = .ok (.iadd, 1) := by decide +kernel
theorem dX9_sets_10 : decode cX9_sets 10 = .ok (.iload_n 3, 1) := by decide +kernel
theorem dX9_sets_11 : decode cX9_sets 11 = .ok (.iastore, 1) := by decide +kernel
theorem dX9_sets_12 : decode cX9_sets 12 = .ok (.aload_n 0, 1) := by decide +kernel
theorem dX9_sets_13 : decode cX9_sets 13 = .ok (.getfield 22, 3) := by decide +kernel
theorem dX9_sets_16 : decode cX9_sets 16 = .ok (.bipush 6, 2) := by decide +kernel
theorem dX9_sets_18 : decode cX9_sets 18 = .ok (.iload_n 2, 1) := by decide +kernel
theorem dX9_sets_19 : decode cX9_sets 19 = .ok (.imul, 1) := by decide +kernel
theorem dX9_sets_20 : decode cX9_sets 20 = .ok (.iload_n 1, 1) := by decide +kernel
theorem dX9_sets_21 : decode cX9_sets 21 = .ok (.iadd, 1) := by decide +kernel
theorem dX9_sets_22 : decode cX9_sets 22 = .ok (.iload_n 3, 1) := by decide +kernel
theorem dX9_sets_23 : decode cX9_sets 23 = .ok (.iastore, 1) := by decide +kernel
theorem dX9_sets_24 : decode cX9_sets 24 = .ok (.return_, 1) := by decide +kernel
theorem dX9_feed_0 : decode cX9_feed 0 = .ok (.iload_n 1, 1) := by decide +kernel
theorem dX9_feed_1 : decode cX9_feed 1 = .ok (.iconst 0, 1) := by decide +kernel
theorem dX9_feed_2 : decode cX9_feed 2 = .ok (.sipush 255, 3) := by decide +kernel
theorem dX9_feed_5 : decode cX9_feed 5 = .ok (.invokestatic 72, 3) := by decide +kernel
theorem dX9_feed_8 : decode cX9_feed 8 = .ok (.istore_n 2, 1) := by decide +kernel
theorem dX9_feed_9 : decode cX9_feed 9 = .ok (.iload_n 2, 1) := by decide +kernel
theorem dX9_feed_10 : decode cX9_feed 10 = .ok (.ifCond .ne 15, 3) := by decide +kernel
theorem dX9_feed_13 : decode cX9_feed 13 = .ok (.aload_n 0, 1) := by decide +kernel
theorem dX9_feed_14 : decode cX9_feed 14 = .ok (.getfield 76, 3) := by decide +kernel
theorem dX9_feed_17 : decode cX9_feed 17 = .ok (.bipush 96, 2) := by decide +kernel
theorem dX9_feed_19 : decode cX9_feed 19 = .ok (.if_icmp .ne 6, 3) := by decide +kernel
theorem dX9_feed_22 : decode cX9_feed 22 = .ok (.bipush (-6), 2) := by decide +kernel
theorem dX9_feed_24 : decode cX9_feed 24 = .ok (.istore_n 2, 1) := by decide +kernel
theorem dX9_feed_25 : decode cX9_feed 25 = .ok (.iload_n 2, 1) := by decide +kernel
theorem dX9_feed_26 : decode cX9_feed 26 = .ok (.ifCond .eq 9, 3) := by decide +kernel
theorem dX9_feed_29 : decode cX9_feed 29 = .ok (.aload_n 0, 1) := by decide +kernel
theorem dX9_feed_30 : decode cX9_feed 30 = .ok (.iload_n 2, 1) := by decide +kernel
theorem dX9_feed_31 : decode cX9_feed 31 = .ok (.invokevirtual 79, 3) := by decide +kernel
theorem dX9_feed_34 : decode cX9_feed 34 = .ok (.ireturn, 1) := by decide +kernel
theorem dX9_feed_35 : decode cX9_feed 35 = .ok (.aload_n 0, 1) := by decide +kernel
theorem dX9_feed_36 : decode cX9_feed 36 = .ok (.getfield 34, 3) := by decide +kernel
theorem dX9_feed_39 : decode cX9_feed 39 = .ok (.aload_n 0, 1) := by decide +kernel
theorem dX9_feed_40 : decode cX9_feed 40 = .ok (.getfield 76, 3) := by decide +kernel
theorem dX9_feed_43 : decode cX9_feed 43 = .ok (.iload_n 1, 1) := by decide +kernel
theorem dX9_feed_44 : decode cX9_feed 44 = .ok (.iastore, 1) := by decide +kernel
theorem dX9_feed_45 : decode cX9_feed 45 = .ok (.aload_n 0, 1) := by decide +kernel
theorem dX9_feed_46 : decode cX9_feed 46 = .ok (.dup, 1) := by decide +kernel
theorem dX9_feed_47 : decode cX9_feed 47 = .ok (.getfield 76, 3) := by decide +kernel
theorem dX9_feed_50 : decode cX9_feed 50 = .ok (.iconst 1, 1) := by decide +kernel
theorem dX9_feed_51 : decode cX9_feed 51 = .ok (.iadd, 1) := by decide +kernel
theorem dX9_feed_52 : decode cX9_feed 52 = .ok (.putfield 76, 3) := by decide +kernel
theorem dX9_feed_55 : decode cX9_feed 55 = .ok (.aload_n 0, 1) := by decide +kernel
theorem dX9_feed_56 : decode cX9_feed 56 = .ok (.getfield 76, 3) := by decide +kernel
theorem dX9_feed_59 : decode cX9_feed 59 = .ok (.ireturn, 1) := by decide +kernel
theorem dX9_next_0 : decode cX9_next 0 = .ok (.aload_n 0, 1) := by decide +kernel
theorem dX9_next_1 : decode cX9_next 1 = .ok (.getfield 83, 3) := by decide +kernel
theorem dX9_next_4 : decode cX9_next 4 = .ok (.aload_n 0, 1) := by decide +kernel
theorem dX9_next_5 : decode cX9_next 5 = .ok (.getfield 76, 3) := by decide +kernel
theorem dX9_next_8 : decode cX9_next 8 = .ok (.if_icmp .ge 15, 3) := by decide +kernel
theorem dX9_next_11 : decode cX9_next 11 = .ok (.aload_n 0, 1) := by decide +kernel
theorem dX9_next_12 : decode cX9_next 12 = .ok (.getfield 34, 3) := by decide +kernel
theorem dX9_next_15 : decode cX9_next 15 = .ok (.aload_n 0, 1) := by decide +kernel
theorem dX9_next_16 : decode cX9_next 16 = .ok (.getfield 83, 3) := by decide +kernel
theorem dX9_next_19 : decode cX9_next 19 = .ok (.iaload, 1) := by decide +kernel
theorem dX9_next_20 : decode cX9_next 20 = .ok (.goto 4, 3) := by decide +kernel
theorem dX9_next_23 : decode cX9_next 23 = .ok (.iconst (-1), 1) := by decide +kernel
theorem dX9_next_24 : decode cX9_next 24 = .ok (.ireturn, 1) := by decide +kernel
theorem dX9_readsDigits_0 : decode cX9_readsDigits 0 = .ok (.iconst 0, 1) := by decide +kernel
theorem dX9_readsDigits_1 : decode cX9_readsDigits 1 = .ok (.istore_n 3, 1) := by decide +kernel
theorem dX9_readsDigits_2 : decode cX9_readsDigits 2 = .ok (.iconst 0, 1) := by decide +kernel
theorem dX9_readsDigits_3 : decode cX9_readsDigits 3 = .ok (.istore 4, 2) := by decide +kernel
theorem dX9_readsDigits_5 : decode cX9_readsDigits 5 = .ok (.iload 4, 2) := by decide +kernel
theorem dX9_readsDigits_7 : decode cX9_readsDigits 7 = .ok (.iload_n 2, 1) := by decide +kernel
theorem dX9_readsDigits_8 : decode cX9_readsDigits 8 = .ok (.if_icmp .ge 48, 3) := by decide +kernel
theorem dX9_readsDigits_11 : decode cX9_readsDigits 11 = .ok (.aload_n 0, 1) := by decide +kernel
theorem dX9_readsDigits_12 : decode cX9_readsDigits 12 = .ok (.invokevirtual 86, 3) := by decide +kernel
theorem dX9_readsDigits_15 : decode cX9_readsDigits 15 = .ok (.bipush 48, 2) := by decide +kernel
theorem dX9_readsDigits_17 : decode cX9_readsDigits 17 = .ok (.bipush 57, 2) := by decide +kernel
theorem dX9_readsDigits_19 : decode cX9_readsDigits 19 = .ok (.invokestatic 90, 3) := by decide +kernel
theorem dX9_readsDigits_22 : decode cX9_readsDigits 22 = .ok (.ifCond .ne 5, 3) := by decide +kernel
theorem dX9_readsDigits_25 : decode cX9_readsDigits 25 = .ok (.iconst 0, 1) := by decide +kernel
theorem dX9_readsDigits_26 : decode cX9_readsDigits 26 = .ok (.ireturn, 1) := by decide +kernel
theorem dX9_readsDigits_27 : decode cX9_readsDigits 27 = .ok (.bipush 10, 2) := by decide +kernel
theorem dX9_readsDigits_29 : decode cX9_readsDigits 29 = .ok (.iload_n 3, 1) := by decide +kernel
theorem dX9_readsDigits_30 : decode cX9_readsDigits 30 = .ok (.imul, 1) := by decide +kernel
theorem dX9_readsDigits_31 : decode cX9_readsDigits 31 = .ok (.aload_n 0, 1) := by decide +kernel
theorem dX9_readsDigits_32 : decode cX9_readsDigits 32 = .ok (.invokevirtual 86, 3) := by decide +kernel
theorem dX9_readsDigits_35 : decode cX9_readsDigits 35 = .ok (.iadd, 1) := by decide +kernel
theorem dX9_readsDigits_36 : decode cX9_readsDigits 36 = .ok (.bipush 48, 2) := by decide +kernel
theorem dX9_readsDigits_38 : decode cX9_readsDigits 38 = .ok (.isub, 1) := by decide +kernel
theorem dX9_readsDigits_39 : decode cX9_readsDigits 39 = .ok (.istore_n 3, 1) := by decide +kernel
theorem dX9_readsDigits_40 : decode cX9_readsDigits 40 = .ok (.aload_n 0, 1) := by decide +kernel
theorem dX9_readsDigits_41 : decode cX9_readsDigits 41 = .ok (.dup, 1) := by decide +kernel
theorem dX9_readsDigits_42 : decode cX9_readsDigits 42 = .ok (.getfield 83, 3) := by decide +kernel
theorem dX9_readsDigits_45 : decode cX9_readsDigits 45 = .ok (.iconst 1, 1) := by decide +kernel
theorem dX9_readsDigits_46 : decode cX9_readsDigits 46 = .ok (.iadd, 1) := by decide +kernel
theorem dX9_readsDigits_47 : decode cX9_readsDigits 47 = .ok (.putfield 83, 3) := by decide +kernel
theorem dX9_readsDigits_50 : decode cX9_readsDigits 50 = .ok (.iinc 4 1, 3) := by decide +kernel
theorem dX9_readsDigits_53 : decode cX9_readsDigits 53 = .ok (.goto (-48), 3) := by decide +kernel
theorem dX9_readsDigits_56 : decode cX9_readsDigits 56 = .ok (.aload_n 0, 1) := by decide +kernel
theorem dX9_readsDigits_57 : decode cX9_readsDigits 57 = .ok (.getfield 43, 3) := by decide +kernel
theorem dX9_readsDigits_60 : decode cX9_readsDigits 60 = .ok (.iload_n 1, 1) := by decide +kernel
theorem dX9_readsDigits_61 : decode cX9_readsDigits 61 = .ok (.iload_n 3, 1) := by decide +kernel
theorem dX9_readsDigits_62 : decode cX9_readsDigits 62 = .ok (.iastore, 1) := by decide +kernel
theorem dX9_readsDigits_63 : decode cX9_readsDigits 63 = .ok (.iconst 1, 1) := by decide +kernel
theorem dX9_readsDigits_64 : decode cX9_readsDigits 64 = .ok (.ireturn, 1) := by decide +kernel
theorem dX9_readsAll_0 : decode cX9_readsAll 0 = .ok (.iload_n 1, 1) := by decide +kernel
theorem dX9_readsAll_1 : decode cX9_readsAll 1 = .ok (.tableswitch 200 103 115 #[167, 104, 200, 200, 67, 141, 200, 200, 200, 200, 200, 200, 193], 67) := by decide +kernel
theorem dX9_readsAll_68 : decode cX9_readsAll 68 = .ok (.aload_n 0, 1) := by decide +kernel
theorem dX9_readsAll_69 : decode cX9_readsAll 69 = .ok (.iload_n 2, 1) := by decide +kernel
theorem dX9_readsAll_70 : decode cX9_readsAll 70 = .ok (.iconst 1, 1) := by decide +kernel
theorem dX9_readsAll_71 : decode cX9_readsAll 71 = .ok (.invokevirtual 94, 3) := by decide +kernel
theorem dX9_readsAll_74 : decode cX9_readsAll 74 = .ok (.ifCond .eq 29, 3) := by decide +kernel
theorem dX9_readsAll_77 : decode cX9_readsAll 77 = .ok (.aload_n 0, 1) := by decide +kernel
theorem dX9_readsAll_78 : decode cX9_readsAll 78 = .ok (.iload_n 2, 1) := by decide +kernel
theorem dX9_readsAll_79 : decode cX9_readsAll 79 = .ok (.iconst 1, 1) := by decide +kernel
theorem dX9_readsAll_80 : decode cX9_readsAll 80 = .ok (.iadd, 1) := by decide +kernel
theorem dX9_readsAll_81 : decode cX9_readsAll 81 = .ok (.iconst 1, 1) := by decide +kernel
theorem dX9_readsAll_82 : decode cX9_readsAll 82 = .ok (.invokevirtual 94, 3) := by decide +kernel
theorem dX9_readsAll_85 : decode cX9_readsAll 85 = .ok (.ifCond .eq 18, 3) := by decide +kernel
theorem dX9_readsAll_88 : decode cX9_readsAll 88 = .ok (.aload_n 0, 1) := by decide +kernel
theorem dX9_readsAll_89 : decode cX9_readsAll 89 = .ok (.iload_n 2, 1) := by decide +kernel
theorem dX9_readsAll_90 : decode cX9_readsAll 90 = .ok (.iconst 2, 1) := by decide +kernel
theorem dX9_readsAll_91 : decode cX9_readsAll 91 = .ok (.iadd, 1) := by decide +kernel
theorem dX9_readsAll_92 : decode cX9_readsAll 92 = .ok (.iconst 1, 1) := by decide +kernel
theorem dX9_readsAll_93 : decode cX9_readsAll 93 = .ok (.invokevirtual 94, 3) := by decide +kernel
theorem dX9_readsAll_96 : decode cX9_readsAll 96 = .ok (.ifCond .eq 7, 3) := by decide +kernel
theorem dX9_readsAll_99 : decode cX9_readsAll 99 = .ok (.iconst 1, 1) := by decide +kernel
theorem dX9_readsAll_100 : decode cX9_readsAll 100 = .ok (.goto 4, 3) := by decide +kernel
theorem dX9_readsAll_103 : decode cX9_readsAll 103 = .ok (.iconst 0, 1) := by decide +kernel
theorem dX9_readsAll_104 : decode cX9_readsAll 104 = .ok (.ireturn, 1) := by decide +kernel
theorem dX9_readsAll_105 : decode cX9_readsAll 105 = .ok (.aload_n 0, 1) := by decide +kernel
theorem dX9_readsAll_106 : decode cX9_readsAll 106 = .ok (.iload_n 2, 1) := by decide +kernel
theorem dX9_readsAll_107 : decode cX9_readsAll 107 = .ok (.iconst 1, 1) := by decide +kernel
theorem dX9_readsAll_108 : decode cX9_readsAll 108 = .ok (.invokevirtual 94, 3) := by decide +kernel
theorem dX9_readsAll_111 : decode cX9_readsAll 111 = .ok (.ifCond .eq 29, 3) := by decide +kernel
theorem dX9_readsAll_114 : decode cX9_readsAll 114 = .ok (.aload_n 0, 1) := by decide +kernel
theorem dX9_readsAll_115 : decode cX9_readsAll 115 = .ok (.iload_n 2, 1) := by decide +kernel
theorem dX9_readsAll_116 : decode cX9_readsAll 116 = .ok (.iconst 1, 1) := by decide +kernel
theorem dX9_readsAll_117 : decode cX9_readsAll 117 = .ok (.iadd, 1) := by decide +kernel
theorem dX9_readsAll_118 : decode cX9_readsAll 118 = .ok (.iconst 1, 1) := by decide +kernel
theorem dX9_readsAll_119 : decode cX9_readsAll 119 = .ok (.invokevirtual 94, 3) := by decide +kernel
theorem dX9_readsAll_122 : decode cX9_readsAll 122 = .ok (.ifCond .eq 18, 3) := by decide +kernel
theorem dX9_readsAll_125 : decode cX9_readsAll 125 = .ok (.aload_n 0, 1) := by decide +kernel
theorem dX9_readsAll_126 : decode cX9_readsAll 126 = .ok (.iload_n 2, 1) := by decide +kernel
theorem dX9_readsAll_127 : decode cX9_readsAll 127 = .ok (.iconst 2, 1) := by decide +kernel
theorem dX9_readsAll_128 : decode cX9_readsAll 128 = .ok (.iadd, 1) := by decide +kernel
theorem dX9_readsAll_129 : decode cX9_readsAll 129 = .ok (.iconst 2, 1) := by decide +kernel
theorem dX9_readsAll_130 : decode cX9_readsAll 130 = .ok (.invokevirtual 94, 3) := by decide +kernel
theorem dX9_readsAll_133 : decode cX9_readsAll 133 = .ok (.ifCond .eq 7, 3) := by decide +kernel
theorem dX9_readsAll_136 : decode cX9_readsAll 136 = .ok (.iconst 1, 1) := by decide +kernel
theorem dX9_readsAll_137 : decode cX9_readsAll 137 = .ok (.goto 4, 3) := by decide +kernel
theorem dX9_readsAll_140 : decode cX9_readsAll 140 = .ok (.iconst 0, 1) := by decide +kernel
theorem dX9_readsAll_141 : decode cX9_readsAll 141 = .ok (.ireturn, 1) := by decide +kernel
theorem dX9_readsAll_142 : decode cX9_readsAll 142 = .ok (.aload_n 0, 1) := by decide +kernel
theorem dX9_readsAll_143 : decode cX9_readsAll 143 = .ok (.iload_n 2, 1) := by decide +kernel
theorem dX9_readsAll_144 : decode cX9_readsAll 144 = .ok (.iconst 2, 1) := by decide +kernel
theorem dX9_readsAll_145 : decode cX9_readsAll 145 = .ok (.invokevirtual 94, 3) := by decide +kernel
theorem dX9_readsAll_148 : decode cX9_readsAll 148 = .ok (.ifCond .eq 18, 3) := by decide +kernel
theorem dX9_readsAll_151 : decode cX9_readsAll 151 = .ok (.aload_n 0, 1) := by decide +kernel
theorem dX9_readsAll_152 : decode cX9_readsAll 152 = .ok (.iload_n 2, 1) := by decide +kernel
theorem dX9_readsAll_153 : decode cX9_readsAll 153 = .ok (.iconst 1, 1) := by decide +kernel
theorem dX9_readsAll_154 : decode cX9_readsAll 154 = .ok (.iadd, 1) := by decide +kernel
theorem dX9_readsAll_155 : decode cX9_readsAll 155 = .ok (.iconst 1, 1) := by decide +kernel
theorem dX9_readsAll_156 : decode cX9_readsAll 156 = .ok (.invokevirtual 94, 3) := by decide +kernel
theorem dX9_readsAll_159 : decode cX9_readsAll 159 = .ok (.ifCond .eq 7, 3) := by decide +kernel
theorem dX9_readsAll_162 : decode cX9_readsAll 162 = .ok (.iconst 1, 1) := by decide +kernel
theorem dX9_readsAll_163 : decode cX9_readsAll 163 = .ok (.goto 4, 3) := by decide +kernel
theorem dX9_readsAll_166 : decode cX9_readsAll 166 = .ok (.iconst 0, 1) := by decide +kernel
theorem dX9_readsAll_167 : decode cX9_readsAll 167 = .ok (.ireturn, 1) := by decide +kernel
theorem dX9_readsAll_168 : decode cX9_readsAll 168 = .ok (.aload_n 0, 1) := by decide +kernel
theorem dX9_readsAll_169 : decode cX9_readsAll 169 = .ok (.iload_n 2, 1) := by decide +kernel
theorem dX9_readsAll_170 : decode cX9_readsAll 170 = .ok (.iconst 1, 1) := by decide +kernel
theorem dX9_readsAll_171 : decode cX9_readsAll 171 = .ok (.invokevirtual 94, 3) := by decide +kernel
theorem dX9_readsAll_174 : decode cX9_readsAll 174 = .ok (.ifCond .eq 18, 3) := by decide +kernel
theorem dX9_readsAll_177 : decode cX9_readsAll 177 = .ok (.aload_n 0, 1) := by decide +kernel
theorem dX9_readsAll_178 : decode cX9_readsAll 178 = .ok (.iload_n 2, 1) := by decide +kernel
theorem dX9_readsAll_179 : decode cX9_readsAll 179 = .ok (.iconst 1, 1) := by decide +kernel
theorem dX9_readsAll_180 : decode cX9_readsAll 180 = .ok (.iadd, 1) := by decide +kernel
theorem dX9_readsAll_181 : decode cX9_readsAll 181 = .ok (.iconst 1, 1) := by decide +kernel
theorem dX9_readsAll_182 : decode cX9_readsAll 182 = .ok (.invokevirtual 94, 3) := by decide +kernel
theorem dX9_readsAll_185 : decode cX9_readsAll 185 = .ok (.ifCond .eq 7, 3) := by decide +kernel
theorem dX9_readsAll_188 : decode cX9_readsAll 188 = .ok (.iconst 1, 1) := by decide +kernel
theorem dX9_readsAll_189 : decode cX9_readsAll 189 = .ok (.goto 4, 3) := by decide +kernel
theorem dX9_readsAll_192 : decode cX9_readsAll 192 = .ok (.iconst 0, 1) := by decide +kernel
theorem dX9_readsAll_193 : decode cX9_readsAll 193 = .ok (.ireturn, 1) := by decide +kernel
theorem dX9_readsAll_194 : decode cX9_readsAll 194 = .ok (.aload_n 0, 1) := by decide +kernel
theorem dX9_readsAll_195 : decode cX9_readsAll 195 = .ok (.iload_n 2, 1) := by decide +kernel
theorem dX9_readsAll_196 : decode cX9_readsAll 196 = .ok (.iconst 1, 1) := by decide +kernel
theorem dX9_readsAll_197 : decode cX9_readsAll 197 = .ok (.invokevirtual 94, 3) := by decide +kernel
theorem dX9_readsAll_200 : decode cX9_readsAll 200 = .ok (.ireturn, 1) := by decide +kernel
theorem dX9_readsAll_201 : decode cX9_readsAll 201 = .ok (.aload_n 0, 1) := by decide +kernel
theorem dX9_readsAll_202 : decode cX9_readsAll 202 = .ok (.iload_n 2, 1) := by decide +kernel
theorem dX9_readsAll_203 : decode cX9_readsAll 203 = .ok (.iconst 2, 1) := by decide +kernel
theorem dX9_readsAll_204 : decode cX9_readsAll 204 = .ok (.invokevirtual 94, 3) := by decide +kernel
theorem dX9_readsAll_207 : decode cX9_readsAll 207 = .ok (.ireturn, 1) := by decide +kernel
theorem dX9_statement_0 : decode cX9_statement 0 = .ok (.aload_n 0, 1) := by decide +kernel
theorem dX9_statement_1 : decode cX9_statement 1 = .ok (.invokevirtual 86, 3) := by decide +kernel
theorem dX9_statement_4 : decode cX9_statement 4 = .ok (.istore_n 1, 1) := by decide +kernel
theorem dX9_statement_5 : decode cX9_statement 5 = .ok (.iload_n 1, 1) := by decide +kernel
theorem dX9_statement_6 : decode cX9_statement 6 = .ok (.bipush 107, 2) := by decide +kernel
theorem dX9_statement_8 : decode cX9_statement 8 = .ok (.if_icmp .eq 35, 3) := by decide +kernel
theorem dX9_statement_11 : decode cX9_statement 11 = .ok (.iload_n 1, 1) := by decide +kernel
theorem dX9_statement_12 : decode cX9_statement 12 = .ok (.bipush 104, 2) := by decide +kernel
theorem dX9_statement_14 : decode cX9_statement 14 = .ok (.if_icmp .eq 29, 3) := by decide +kernel
theorem dX9_statement_17 : decode cX9_statement 17 = .ok (.iload_n 1, 1) := by decide +kernel
theorem dX9_statement_18 : decode cX9_statement 18 = .ok (.bipush 108, 2) := by decide +kernel
theorem dX9_statement_20 : decode cX9_statement 20 = .ok (.if_icmp .eq 23, 3) := by decide +kernel
theorem dX9_statement_23 : decode cX9_statement 23 = .ok (.iload_n 1, 1) := by decide +kernel
theorem dX9_statement_24 : decode cX9_statement 24 = .ok (.bipush 103, 2) := by decide +kernel
theorem dX9_statement_26 : decode cX9_statement 26 = .ok (.if_icmp .eq 17, 3) := by decide +kernel
theorem dX9_statement_29 : decode cX9_statement 29 = .ok (.iload_n 1, 1) := by decide +kernel
theorem dX9_statement_30 : decode cX9_statement 30 = .ok (.bipush 115, 2) := by decide +kernel
theorem dX9_statement_32 : decode cX9_statement 32 = .ok (.if_icmp .eq 11, 3) := by decide +kernel
theorem dX9_statement_35 : decode cX9_statement 35 = .ok (.iload_n 1, 1) := by decide +kernel
theorem dX9_statement_36 : decode cX9_statement 36 = .ok (.bipush 119, 2) := by decide +kernel
theorem dX9_statement_38 : decode cX9_statement 38 = .ok (.if_icmp .eq 5, 3) := by decide +kernel
theorem dX9_statement_41 : decode cX9_statement 41 = .ok (.iconst 0, 1) := by decide +kernel
theorem dX9_statement_42 : decode cX9_statement 42 = .ok (.ireturn, 1) := by decide +kernel
theorem dX9_statement_43 : decode cX9_statement 43 = .ok (.aload_n 0, 1) := by decide +kernel
theorem dX9_statement_44 : decode cX9_statement 44 = .ok (.getfield 37, 3) := by decide +kernel
theorem dX9_statement_47 : decode cX9_statement 47 = .ok (.aload_n 0, 1) := by decide +kernel
theorem dX9_statement_48 : decode cX9_statement 48 = .ok (.getfield 98, 3) := by decide +kernel
theorem dX9_statement_51 : decode cX9_statement 51 = .ok (.iload_n 1, 1) := by decide +kernel
theorem dX9_statement_52 : decode cX9_statement 52 = .ok (.iastore, 1) := by decide +kernel
theorem dX9_statement_53 : decode cX9_statement 53 = .ok (.aload_n 0, 1) := by decide +kernel
theorem dX9_statement_54 : decode cX9_statement 54 = .ok (.getfield 40, 3) := by decide +kernel
theorem dX9_statement_57 : decode cX9_statement 57 = .ok (.aload_n 0, 1) := by decide +kernel
theorem dX9_statement_58 : decode cX9_statement 58 = .ok (.getfield 98, 3) := by decide +kernel
theorem dX9_statement_61 : decode cX9_statement 61 = .ok (.aload_n 0, 1) := by decide +kernel
theorem dX9_statement_62 : decode cX9_statement 62 = .ok (.getfield 83, 3) := by decide +kernel
theorem dX9_statement_65 : decode cX9_statement 65 = .ok (.iastore, 1) := by decide +kernel
theorem dX9_statement_66 : decode cX9_statement 66 = .ok (.aload_n 0, 1) := by decide +kernel
theorem dX9_statement_67 : decode cX9_statement 67 = .ok (.dup, 1) := by decide +kernel
theorem dX9_statement_68 : decode cX9_statement 68 = .ok (.getfield 83, 3) := by decide +kernel
theorem dX9_statement_71 : decode cX9_statement 71 = .ok (.iconst 1, 1) := by decide +kernel
theorem dX9_statement_72 : decode cX9_statement 72 = .ok (.iadd, 1) := by decide +kernel
theorem dX9_statement_73 : decode cX9_statement 73 = .ok (.putfield 83, 3) := by decide +kernel
theorem dX9_statement_76 : decode cX9_statement 76 = .ok (.aload_n 0, 1) := by decide +kernel
theorem dX9_statement_77 : decode cX9_statement 77 = .ok (.iload_n 1, 1) := by decide +kernel
theorem dX9_statement_78 : decode cX9_statement 78 = .ok (.iconst 3, 1) := by decide +kernel
theorem dX9_statement_79 : decode cX9_statement 79 = .ok (.aload_n 0, 1) := by decide +kernel
theorem dX9_statement_80 : decode cX9_statement 80 = .ok (.getfield 98, 3) := by decide +kernel
theorem dX9_statement_83 : decode cX9_statement 83 = .ok (.imul, 1) := by decide +kernel
theorem dX9_statement_84 : decode cX9_statement 84 = .ok (.invokevirtual 101, 3) := by decide +kernel
theorem dX9_statement_87 : decode cX9_statement 87 = .ok (.ifCond .eq 12, 3) := by decide +kernel
theorem dX9_statement_90 : decode cX9_statement 90 = .ok (.aload_n 0, 1) := by decide +kernel
theorem dX9_statement_91 : decode cX9_statement 91 = .ok (.invokevirtual 86, 3) := by decide +kernel
theorem dX9_statement_94 : decode cX9_statement 94 = .ok (.bipush 59, 2) := by decide +kernel
theorem dX9_statement_96 : decode cX9_statement 96 = .ok (.if_icmp .eq 5, 3) := by decide +kernel
theorem dX9_statement_99 : decode cX9_statement 99 = .ok (.iconst 0, 1) := by decide +kernel
theorem dX9_statement_100 : decode cX9_statement 100 = .ok (.ireturn, 1) := by decide +kernel
theorem dX9_statement_101 : decode cX9_statement 101 = .ok (.aload_n 0, 1) := by decide +kernel
theorem dX9_statement_102 : decode cX9_statement 102 = .ok (.dup, 1) := by decide +kernel
theorem dX9_statement_103 : decode cX9_statement 103 = .ok (.getfield 83, 3) := by decide +kernel
theorem dX9_statement_106 : decode cX9_statement 106 = .ok (.iconst 1, 1) := by decide +kernel
theorem dX9_statement_107 : decode cX9_statement 107 = .ok (.iadd, 1) := by decide +kernel
theorem dX9_statement_108 : decode cX9_statement 108 = .ok (.putfield 83, 3) := by decide +kernel
theorem dX9_statement_111 : decode cX9_statement 111 = .ok (.iconst 1, 1) := by decide +kernel
theorem dX9_statement_112 : decode cX9_statement 112 = .ok (.ireturn, 1) := by decide +kernel
theorem dX9_comesKeeper_0 : decode cX9_comesKeeper 0 = .ok (.iload_n 1, 1) := by decide +kernel
theorem dX9_comesKeeper_1 : decode cX9_comesKeeper 1 = .ok (.iconst 5, 1) := by decide +kernel
theorem dX9_comesKeeper_2 : decode cX9_comesKeeper 2 = .ok (.if_icmp .gt 19, 3) := by decide +kernel
theorem dX9_comesKeeper_5 : decode cX9_comesKeeper 5 = .ok (.iload_n 3, 1) := by decide +kernel
theorem dX9_comesKeeper_6 : decode cX9_comesKeeper 6 = .ok (.invokestatic 104, 3) := by decide +kernel
theorem dX9_comesKeeper_9 : decode cX9_comesKeeper 9 = .ok (.ifCond .eq 12, 3) := by decide +kernel
theorem dX9_comesKeeper_12 : decode cX9_comesKeeper 12 = .ok (.aload_n 0, 1) := by decide +kernel
theorem dX9_comesKeeper_13 : decode cX9_comesKeeper 13 = .ok (.getfield 65, 3) := by decide +kernel
theorem dX9_comesKeeper_16 : decode cX9_comesKeeper 16 = .ok (.bipush 6, 2) := by decide +kernel
theorem dX9_comesKeeper_18 : decode cX9_comesKeeper 18 = .ok (.if_icmp .ne 5, 3) := by decide +kernel
theorem dX9_comesKeeper_21 : decode cX9_comesKeeper 21 = .ok (.iconst 0, 1) := by decide +kernel
theorem dX9_comesKeeper_22 : decode cX9_comesKeeper 22 = .ok (.ireturn, 1) := by decide +kernel
theorem dX9_comesKeeper_23 : decode cX9_comesKeeper 23 = .ok (.aload_n 0, 1) := by decide +kernel
theorem dX9_comesKeeper_24 : decode cX9_comesKeeper 24 = .ok (.iload_n 1, 1) := by decide +kernel
theorem dX9_comesKeeper_25 : decode cX9_comesKeeper 25 = .ok (.iload_n 2, 1) := by decide +kernel
theorem dX9_comesKeeper_26 : decode cX9_comesKeeper 26 = .ok (.iload_n 3, 1) := by decide +kernel
theorem dX9_comesKeeper_27 : decode cX9_comesKeeper 27 = .ok (.invokevirtual 107, 3) := by decide +kernel
theorem dX9_comesKeeper_30 : decode cX9_comesKeeper 30 = .ok (.iconst 1, 1) := by decide +kernel
theorem dX9_comesKeeper_31 : decode cX9_comesKeeper 31 = .ok (.ireturn, 1) := by decide +kernel
theorem dX9_comesLetter_0 : decode cX9_comesLetter 0 = .ok (.iload_n 2, 1) := by decide +kernel
theorem dX9_comesLetter_1 : decode cX9_comesLetter 1 = .ok (.invokestatic 104, 3) := by decide +kernel
theorem dX9_comesLetter_4 : decode cX9_comesLetter 4 = .ok (.ifCond .eq 12, 3) := by decide +kernel
theorem dX9_comesLetter_7 : decode cX9_comesLetter 7 = .ok (.aload_n 0, 1) := by decide +kernel
theorem dX9_comesLetter_8 : decode cX9_comesLetter 8 = .ok (.getfield 58, 3) := by decide +kernel
theorem dX9_comesLetter_11 : decode cX9_comesLetter 11 = .ok (.bipush 6, 2) := by decide +kernel
theorem dX9_comesLetter_13 : decode cX9_comesLetter 13 = .ok (.if_icmp .ne 5, 3) := by decide +kernel
theorem dX9_comesLetter_16 : decode cX9_comesLetter 16 = .ok (.iconst 0, 1) := by decide +kernel
theorem dX9_comesLetter_17 : decode cX9_comesLetter 17 = .ok (.ireturn, 1) := by decide +kernel
theorem dX9_comesLetter_18 : decode cX9_comesLetter 18 = .ok (.aload_n 0, 1) := by decide +kernel
theorem dX9_comesLetter_19 : decode cX9_comesLetter 19 = .ok (.iload_n 2, 1) := by decide +kernel
theorem dX9_comesLetter_20 : decode cX9_comesLetter 20 = .ok (.iload_n 1, 1) := by decide +kernel
theorem dX9_comesLetter_21 : decode cX9_comesLetter 21 = .ok (.invokevirtual 111, 3) := by decide +kernel
theorem dX9_comesLetter_24 : decode cX9_comesLetter 24 = .ok (.iconst 1, 1) := by decide +kernel
theorem dX9_comesLetter_25 : decode cX9_comesLetter 25 = .ok (.ireturn, 1) := by decide +kernel
theorem dX9_comesWeeks_0 : decode cX9_comesWeeks 0 = .ok (.iload_n 1, 1) := by decide +kernel
theorem dX9_comesWeeks_1 : decode cX9_comesWeeks 1 = .ok (.iconst 1, 1) := by decide +kernel
theorem dX9_comesWeeks_2 : decode cX9_comesWeeks 2 = .ok (.bipush 60, 2) := by decide +kernel
theorem dX9_comesWeeks_4 : decode cX9_comesWeeks 4 = .ok (.invokestatic 90, 3) := by decide +kernel
theorem dX9_comesWeeks_7 : decode cX9_comesWeeks 7 = .ok (.ifCond .eq 15, 3) := by decide +kernel
theorem dX9_comesWeeks_10 : decode cX9_comesWeeks 10 = .ok (.aload_n 0, 1) := by decide +kernel
theorem dX9_comesWeeks_11 : decode cX9_comesWeeks 11 = .ok (.getfield 115, 3) := by decide +kernel
theorem dX9_comesWeeks_14 : decode cX9_comesWeeks 14 = .ok (.iload_n 1, 1) := by decide +kernel
theorem dX9_comesWeeks_15 : decode cX9_comesWeeks 15 = .ok (.iadd, 1) := by decide +kernel
theorem dX9_comesWeeks_16 : decode cX9_comesWeeks 16 = .ok (.sipush 999, 3) := by decide +kernel
theorem dX9_comesWeeks_19 : decode cX9_comesWeeks 19 = .ok (.if_icmp .le 5, 3) := by decide +kernel
theorem dX9_comesWeeks_22 : decode cX9_comesWeeks 22 = .ok (.iconst 0, 1) := by decide +kernel
theorem dX9_comesWeeks_23 : decode cX9_comesWeeks 23 = .ok (.ireturn, 1) := by decide +kernel
theorem dX9_comesWeeks_24 : decode cX9_comesWeeks 24 = .ok (.aload_n 0, 1) := by decide +kernel
theorem dX9_comesWeeks_25 : decode cX9_comesWeeks 25 = .ok (.iload_n 1, 1) := by decide +kernel
theorem dX9_comesWeeks_26 : decode cX9_comesWeeks 26 = .ok (.invokevirtual 118, 3) := by decide +kernel
theorem dX9_comesWeeks_29 : decode cX9_comesWeeks 29 = .ok (.iconst 1, 1) := by decide +kernel
theorem dX9_comesWeeks_30 : decode cX9_comesWeeks 30 = .ok (.ireturn, 1) := by decide +kernel
theorem dX9_comes_0 : decode cX9_comes 0 = .ok (.iconst 3, 1) := by decide +kernel
theorem dX9_comes_1 : decode cX9_comes 1 = .ok (.iload_n 1, 1) := by decide +kernel
theorem dX9_comes_2 : decode cX9_comes 2 = .ok (.imul, 1) := by decide +kernel
theorem dX9_comes_3 : decode cX9_comes 3 = .ok (.istore_n 2, 1) := by decide +kernel
theorem dX9_comes_4 : decode cX9_comes 4 = .ok (.aload_n 0, 1) := by decide +kernel
theorem dX9_comes_5 : decode cX9_comes 5 = .ok (.getfield 37, 3) := by decide +kernel
theorem dX9_comes_8 : decode cX9_comes 8 = .ok (.iload_n 1, 1) := by decide +kernel
theorem dX9_comes_9 : decode cX9_comes 9 = .ok (.iaload, 1) := by decide +kernel
theorem dX9_comes_10 : decode cX9_comes 10 = .ok (.tableswitch 254 103 115 #[163, 93, 254, 254, 66, 144, 254, 254, 254, 254, 254, 254, 213], 66) := by decide +kernel
theorem dX9_comes_76 : decode cX9_comes 76 = .ok (.aload_n 0, 1) := by decide +kernel
theorem dX9_comes_77 : decode cX9_comes 77 = .ok (.aload_n 0, 1) := by decide +kernel
theorem dX9_comes_78 : decode cX9_comes 78 = .ok (.getfield 43, 3) := by decide +kernel
theorem dX9_comes_81 : decode cX9_comes 81 = .ok (.iload_n 2, 1) := by decide +kernel
theorem dX9_comes_82 : decode cX9_comes 82 = .ok (.iaload, 1) := by decide +kernel
theorem dX9_comes_83 : decode cX9_comes 83 = .ok (.aload_n 0, 1) := by decide +kernel
theorem dX9_comes_84 : decode cX9_comes 84 = .ok (.getfield 43, 3) := by decide +kernel
theorem dX9_comes_87 : decode cX9_comes 87 = .ok (.iload_n 2, 1) := by decide +kernel
theorem dX9_comes_88 : decode cX9_comes 88 = .ok (.iconst 1, 1) := by decide +kernel
theorem dX9_comes_89 : decode cX9_comes 89 = .ok (.iadd, 1) := by decide +kernel
theorem dX9_comes_90 : decode cX9_comes 90 = .ok (.iaload, 1) := by decide +kernel
theorem dX9_comes_91 : decode cX9_comes 91 = .ok (.aload_n 0, 1) := by decide +kernel
theorem dX9_comes_92 : decode cX9_comes 92 = .ok (.getfield 43, 3) := by decide +kernel
theorem dX9_comes_95 : decode cX9_comes 95 = .ok (.iload_n 2, 1) := by decide +kernel
theorem dX9_comes_96 : decode cX9_comes 96 = .ok (.iconst 2, 1) := by decide +kernel
theorem dX9_comes_97 : decode cX9_comes 97 = .ok (.iadd, 1) := by decide +kernel
theorem dX9_comes_98 : decode cX9_comes 98 = .ok (.iaload, 1) := by decide +kernel
theorem dX9_comes_99 : decode cX9_comes 99 = .ok (.invokevirtual 122, 3) := by decide +kernel
theorem dX9_comes_102 : decode cX9_comes 102 = .ok (.ireturn, 1) := by decide +kernel
theorem dX9_comes_103 : decode cX9_comes 103 = .ok (.aload_n 0, 1) := by decide +kernel
theorem dX9_comes_104 : decode cX9_comes 104 = .ok (.aload_n 0, 1) := by decide +kernel
theorem dX9_comes_105 : decode cX9_comes 105 = .ok (.getfield 43, 3) := by decide +kernel
theorem dX9_comes_108 : decode cX9_comes 108 = .ok (.iload_n 2, 1) := by decide +kernel
theorem dX9_comes_109 : decode cX9_comes 109 = .ok (.iaload, 1) := by decide +kernel
theorem dX9_comes_110 : decode cX9_comes 110 = .ok (.aload_n 0, 1) := by decide +kernel
theorem dX9_comes_111 : decode cX9_comes 111 = .ok (.getfield 43, 3) := by decide +kernel
theorem dX9_comes_114 : decode cX9_comes 114 = .ok (.iload_n 2, 1) := by decide +kernel
theorem dX9_comes_115 : decode cX9_comes 115 = .ok (.iconst 1, 1) := by decide +kernel
theorem dX9_comes_116 : decode cX9_comes 116 = .ok (.iadd, 1) := by decide +kernel
theorem dX9_comes_117 : decode cX9_comes 117 = .ok (.iaload, 1) := by decide +kernel
theorem dX9_comes_118 : decode cX9_comes 118 = .ok (.invokevirtual 125, 3) := by decide +kernel
theorem dX9_comes_121 : decode cX9_comes 121 = .ok (.ifCond .ne 5, 3) := by decide +kernel
theorem dX9_comes_124 : decode cX9_comes 124 = .ok (.iconst 0, 1) := by decide +kernel
theorem dX9_comes_125 : decode cX9_comes 125 = .ok (.ireturn, 1) := by decide +kernel
theorem dX9_comes_126 : decode cX9_comes 126 = .ok (.aload_n 0, 1) := by decide +kernel
theorem dX9_comes_127 : decode cX9_comes 127 = .ok (.aload_n 0, 1) := by decide +kernel
theorem dX9_comes_128 : decode cX9_comes 128 = .ok (.getfield 43, 3) := by decide +kernel
theorem dX9_comes_131 : decode cX9_comes 131 = .ok (.iload_n 2, 1) := by decide +kernel
theorem dX9_comes_132 : decode cX9_comes 132 = .ok (.iaload, 1) := by decide +kernel
theorem dX9_comes_133 : decode cX9_comes 133 = .ok (.aload_n 0, 1) := by decide +kernel
theorem dX9_comes_134 : decode cX9_comes 134 = .ok (.getfield 43, 3) := by decide +kernel
theorem dX9_comes_137 : decode cX9_comes 137 = .ok (.iload_n 2, 1) := by decide +kernel
theorem dX9_comes_138 : decode cX9_comes 138 = .ok (.iconst 1, 1) := by decide +kernel
theorem dX9_comes_139 : decode cX9_comes 139 = .ok (.iadd, 1) := by decide +kernel
theorem dX9_comes_140 : decode cX9_comes 140 = .ok (.iaload, 1) := by decide +kernel
theorem dX9_comes_141 : decode cX9_comes 141 = .ok (.aload_n 0, 1) := by decide +kernel
theorem dX9_comes_142 : decode cX9_comes 142 = .ok (.getfield 43, 3) := by decide +kernel
theorem dX9_comes_145 : decode cX9_comes 145 = .ok (.iload_n 2, 1) := by decide +kernel
theorem dX9_comes_146 : decode cX9_comes 146 = .ok (.iconst 2, 1) := by decide +kernel
theorem dX9_comes_147 : decode cX9_comes 147 = .ok (.iadd, 1) := by decide +kernel
theorem dX9_comes_148 : decode cX9_comes 148 = .ok (.iaload, 1) := by decide +kernel
theorem dX9_comes_149 : decode cX9_comes 149 = .ok (.invokevirtual 128, 3) := by decide +kernel
theorem dX9_comes_152 : decode cX9_comes 152 = .ok (.iconst 1, 1) := by decide +kernel
theorem dX9_comes_153 : decode cX9_comes 153 = .ok (.ireturn, 1) := by decide +kernel
theorem dX9_comes_154 : decode cX9_comes 154 = .ok (.aload_n 0, 1) := by decide +kernel
theorem dX9_comes_155 : decode cX9_comes 155 = .ok (.aload_n 0, 1) := by decide +kernel
theorem dX9_comes_156 : decode cX9_comes 156 = .ok (.getfield 43, 3) := by decide +kernel
theorem dX9_comes_159 : decode cX9_comes 159 = .ok (.iload_n 2, 1) := by decide +kernel
theorem dX9_comes_160 : decode cX9_comes 160 = .ok (.iaload, 1) := by decide +kernel
theorem dX9_comes_161 : decode cX9_comes 161 = .ok (.aload_n 0, 1) := by decide +kernel
theorem dX9_comes_162 : decode cX9_comes 162 = .ok (.getfield 43, 3) := by decide +kernel
theorem dX9_comes_165 : decode cX9_comes 165 = .ok (.iload_n 2, 1) := by decide +kernel
theorem dX9_comes_166 : decode cX9_comes 166 = .ok (.iconst 1, 1) := by decide +kernel
theorem dX9_comes_167 : decode cX9_comes 167 = .ok (.iadd, 1) := by decide +kernel
theorem dX9_comes_168 : decode cX9_comes 168 = .ok (.iaload, 1) := by decide +kernel
theorem dX9_comes_169 : decode cX9_comes 169 = .ok (.invokevirtual 131, 3) := by decide +kernel
theorem dX9_comes_172 : decode cX9_comes 172 = .ok (.ireturn, 1) := by decide +kernel
theorem dX9_comes_173 : decode cX9_comes 173 = .ok (.aload_n 0, 1) := by decide +kernel
theorem dX9_comes_174 : decode cX9_comes 174 = .ok (.aload_n 0, 1) := by decide +kernel
theorem dX9_comes_175 : decode cX9_comes 175 = .ok (.getfield 43, 3) := by decide +kernel
theorem dX9_comes_178 : decode cX9_comes 178 = .ok (.iload_n 2, 1) := by decide +kernel
theorem dX9_comes_179 : decode cX9_comes 179 = .ok (.iaload, 1) := by decide +kernel
theorem dX9_comes_180 : decode cX9_comes 180 = .ok (.invokevirtual 68, 3) := by decide +kernel
theorem dX9_comes_183 : decode cX9_comes 183 = .ok (.ifCond .eq 17, 3) := by decide +kernel
theorem dX9_comes_186 : decode cX9_comes 186 = .ok (.aload_n 0, 1) := by decide +kernel
theorem dX9_comes_187 : decode cX9_comes 187 = .ok (.getfield 43, 3) := by decide +kernel
theorem dX9_comes_190 : decode cX9_comes 190 = .ok (.iload_n 2, 1) := by decide +kernel
theorem dX9_comes_191 : decode cX9_comes 191 = .ok (.iconst 1, 1) := by decide +kernel
theorem dX9_comes_192 : decode cX9_comes 192 = .ok (.iadd, 1) := by decide +kernel
theorem dX9_comes_193 : decode cX9_comes 193 = .ok (.iaload, 1) := by decide +kernel
theorem dX9_comes_194 : decode cX9_comes 194 = .ok (.invokestatic 104, 3) := by decide +kernel
theorem dX9_comes_197 : decode cX9_comes 197 = .ok (.ifCond .ne 5, 3) := by decide +kernel
theorem dX9_comes_200 : decode cX9_comes 200 = .ok (.iconst 0, 1) := by decide +kernel
theorem dX9_comes_201 : decode cX9_comes 201 = .ok (.ireturn, 1) := by decide +kernel
theorem dX9_comes_202 : decode cX9_comes 202 = .ok (.aload_n 0, 1) := by decide +kernel
theorem dX9_comes_203 : decode cX9_comes 203 = .ok (.getfield 19, 3) := by decide +kernel
theorem dX9_comes_206 : decode cX9_comes 206 = .ok (.aload_n 0, 1) := by decide +kernel
theorem dX9_comes_207 : decode cX9_comes 207 = .ok (.getfield 43, 3) := by decide +kernel
theorem dX9_comes_210 : decode cX9_comes 210 = .ok (.iload_n 2, 1) := by decide +kernel
theorem dX9_comes_211 : decode cX9_comes 211 = .ok (.iaload, 1) := by decide +kernel
theorem dX9_comes_212 : decode cX9_comes 212 = .ok (.aload_n 0, 1) := by decide +kernel
theorem dX9_comes_213 : decode cX9_comes 213 = .ok (.getfield 43, 3) := by decide +kernel
theorem dX9_comes_216 : decode cX9_comes 216 = .ok (.iload_n 2, 1) := by decide +kernel
theorem dX9_comes_217 : decode cX9_comes 217 = .ok (.iconst 1, 1) := by decide +kernel
theorem dX9_comes_218 : decode cX9_comes 218 = .ok (.iadd, 1) := by decide +kernel
theorem dX9_comes_219 : decode cX9_comes 219 = .ok (.iaload, 1) := by decide +kernel
theorem dX9_comes_220 : decode cX9_comes 220 = .ok (.iastore, 1) := by decide +kernel
theorem dX9_comes_221 : decode cX9_comes 221 = .ok (.iconst 1, 1) := by decide +kernel
theorem dX9_comes_222 : decode cX9_comes 222 = .ok (.ireturn, 1) := by decide +kernel
theorem dX9_comes_223 : decode cX9_comes 223 = .ok (.aload_n 0, 1) := by decide +kernel
theorem dX9_comes_224 : decode cX9_comes 224 = .ok (.aload_n 0, 1) := by decide +kernel
theorem dX9_comes_225 : decode cX9_comes 225 = .ok (.getfield 43, 3) := by decide +kernel
theorem dX9_comes_228 : decode cX9_comes 228 = .ok (.iload_n 2, 1) := by decide +kernel
theorem dX9_comes_229 : decode cX9_comes 229 = .ok (.iaload, 1) := by decide +kernel
theorem dX9_comes_230 : decode cX9_comes 230 = .ok (.invokevirtual 134, 3) := by decide +kernel
theorem dX9_comes_233 : decode cX9_comes 233 = .ok (.ifCond .ne 5, 3) := by decide +kernel
theorem dX9_comes_236 : decode cX9_comes 236 = .ok (.iconst 0, 1) := by decide +kernel
theorem dX9_comes_237 : decode cX9_comes 237 = .ok (.ireturn, 1) := by decide +kernel
theorem dX9_comes_238 : decode cX9_comes 238 = .ok (.aload_n 0, 1) := by decide +kernel
theorem dX9_comes_239 : decode cX9_comes 239 = .ok (.getfield 31, 3) := by decide +kernel
theorem dX9_comes_242 : decode cX9_comes 242 = .ok (.aload_n 0, 1) := by decide +kernel
theorem dX9_comes_243 : decode cX9_comes 243 = .ok (.getfield 43, 3) := by decide +kernel
theorem dX9_comes_246 : decode cX9_comes 246 = .ok (.iload_n 2, 1) := by decide +kernel
theorem dX9_comes_247 : decode cX9_comes 247 = .ok (.iaload, 1) := by decide +kernel
theorem dX9_comes_248 : decode cX9_comes 248 = .ok (.iconst 1, 1) := by decide +kernel
theorem dX9_comes_249 : decode cX9_comes 249 = .ok (.aload_n 0, 1) := by decide +kernel
theorem dX9_comes_250 : decode cX9_comes 250 = .ok (.getfield 31, 3) := by decide +kernel
theorem dX9_comes_253 : decode cX9_comes 253 = .ok (.aload_n 0, 1) := by decide +kernel
theorem dX9_comes_254 : decode cX9_comes 254 = .ok (.getfield 43, 3) := by decide +kernel
theorem dX9_comes_257 : decode cX9_comes 257 = .ok (.iload_n 2, 1) := by decide +kernel
theorem dX9_comes_258 : decode cX9_comes 258 = .ok (.iaload, 1) := by decide +kernel
theorem dX9_comes_259 : decode cX9_comes 259 = .ok (.iaload, 1) := by decide +kernel
theorem dX9_comes_260 : decode cX9_comes 260 = .ok (.isub, 1) := by decide +kernel
theorem dX9_comes_261 : decode cX9_comes 261 = .ok (.iastore, 1) := by decide +kernel
theorem dX9_comes_262 : decode cX9_comes 262 = .ok (.iconst 1, 1) := by decide +kernel
theorem dX9_comes_263 : decode cX9_comes 263 = .ok (.ireturn, 1) := by decide +kernel
theorem dX9_comes_264 : decode cX9_comes 264 = .ok (.aload_n 0, 1) := by decide +kernel
theorem dX9_comes_265 : decode cX9_comes 265 = .ok (.aload_n 0, 1) := by decide +kernel
theorem dX9_comes_266 : decode cX9_comes 266 = .ok (.getfield 43, 3) := by decide +kernel
theorem dX9_comes_269 : decode cX9_comes 269 = .ok (.iload_n 2, 1) := by decide +kernel
theorem dX9_comes_270 : decode cX9_comes 270 = .ok (.iaload, 1) := by decide +kernel
theorem dX9_comes_271 : decode cX9_comes 271 = .ok (.invokevirtual 137, 3) := by decide +kernel
theorem dX9_comes_274 : decode cX9_comes 274 = .ok (.ireturn, 1) := by decide +kernel
theorem dX9_land_0 : decode cX9_land 0 = .ok (.aload_n 0, 1) := by decide +kernel
theorem dX9_land_1 : decode cX9_land 1 = .ok (.iconst 0, 1) := by decide +kernel
theorem dX9_land_2 : decode cX9_land 2 = .ok (.putfield 83, 3) := by decide +kernel
theorem dX9_land_5 : decode cX9_land 5 = .ok (.aload_n 0, 1) := by decide +kernel
theorem dX9_land_6 : decode cX9_land 6 = .ok (.iconst 0, 1) := by decide +kernel
theorem dX9_land_7 : decode cX9_land 7 = .ok (.putfield 98, 3) := by decide +kernel
theorem dX9_land_10 : decode cX9_land 10 = .ok (.iconst 1, 1) := by decide +kernel
theorem dX9_land_11 : decode cX9_land 11 = .ok (.istore_n 1, 1) := by decide +kernel
theorem dX9_land_12 : decode cX9_land 12 = .ok (.iload_n 1, 1) := by decide +kernel
theorem dX9_land_13 : decode cX9_land 13 = .ok (.ifCond .eq 47, 3) := by decide +kernel
theorem dX9_land_16 : decode cX9_land 16 = .ok (.aload_n 0, 1) := by decide +kernel
theorem dX9_land_17 : decode cX9_land 17 = .ok (.getfield 83, 3) := by decide +kernel
theorem dX9_land_20 : decode cX9_land 20 = .ok (.aload_n 0, 1) := by decide +kernel
theorem dX9_land_21 : decode cX9_land 21 = .ok (.getfield 76, 3) := by decide +kernel
theorem dX9_land_24 : decode cX9_land 24 = .ok (.if_icmp .lt 10, 3) := by decide +kernel
theorem dX9_land_27 : decode cX9_land 27 = .ok (.aload_n 0, 1) := by decide +kernel
theorem dX9_land_28 : decode cX9_land 28 = .ok (.getfield 98, 3) := by decide +kernel
theorem dX9_land_31 : decode cX9_land 31 = .ok (.ifCond .ne 29, 3) := by decide +kernel
theorem dX9_land_34 : decode cX9_land 34 = .ok (.aload_n 0, 1) := by decide +kernel
theorem dX9_land_35 : decode cX9_land 35 = .ok (.invokevirtual 140, 3) := by decide +kernel
theorem dX9_land_38 : decode cX9_land 38 = .ok (.istore_n 1, 1) := by decide +kernel
theorem dX9_land_39 : decode cX9_land 39 = .ok (.aload_n 0, 1) := by decide +kernel
theorem dX9_land_40 : decode cX9_land 40 = .ok (.dup, 1) := by decide +kernel
theorem dX9_land_41 : decode cX9_land 41 = .ok (.getfield 98, 3) := by decide +kernel
theorem dX9_land_44 : decode cX9_land 44 = .ok (.iload_n 1, 1) := by decide +kernel
theorem dX9_land_45 : decode cX9_land 45 = .ok (.ifCond .eq 7, 3) := by decide +kernel
theorem dX9_land_48 : decode cX9_land 48 = .ok (.iconst 1, 1) := by decide +kernel
theorem dX9_land_49 : decode cX9_land 49 = .ok (.goto 4, 3) := by decide +kernel
theorem dX9_land_52 : decode cX9_land 52 = .ok (.iconst 0, 1) := by decide +kernel
theorem dX9_land_53 : decode cX9_land 53 = .ok (.iadd, 1) := by decide +kernel
theorem dX9_land_54 : decode cX9_land 54 = .ok (.putfield 98, 3) := by decide +kernel
theorem dX9_land_57 : decode cX9_land 57 = .ok (.goto (-45), 3) := by decide +kernel
theorem dX9_land_60 : decode cX9_land 60 = .ok (.aload_n 0, 1) := by decide +kernel
theorem dX9_land_61 : decode cX9_land 61 = .ok (.iconst 0, 1) := by decide +kernel
theorem dX9_land_62 : decode cX9_land 62 = .ok (.putfield 76, 3) := by decide +kernel
theorem dX9_land_65 : decode cX9_land 65 = .ok (.iload_n 1, 1) := by decide +kernel
theorem dX9_land_66 : decode cX9_land 66 = .ok (.ifCond .ne 12, 3) := by decide +kernel
theorem dX9_land_69 : decode cX9_land 69 = .ok (.sipush (-1000), 3) := by decide +kernel
theorem dX9_land_72 : decode cX9_land 72 = .ok (.aload_n 0, 1) := by decide +kernel
theorem dX9_land_73 : decode cX9_land 73 = .ok (.getfield 83, 3) := by decide +kernel
theorem dX9_land_76 : decode cX9_land 76 = .ok (.isub, 1) := by decide +kernel
theorem dX9_land_77 : decode cX9_land 77 = .ok (.ireturn, 1) := by decide +kernel
theorem dX9_land_78 : decode cX9_land 78 = .ok (.aload_n 0, 1) := by decide +kernel
theorem dX9_land_79 : decode cX9_land 79 = .ok (.iconst 1, 1) := by decide +kernel
theorem dX9_land_80 : decode cX9_land 80 = .ok (.iconst 1, 1) := by decide +kernel
theorem dX9_land_81 : decode cX9_land 81 = .ok (.invokevirtual 144, 3) := by decide +kernel
theorem dX9_land_84 : decode cX9_land 84 = .ok (.iconst 0, 1) := by decide +kernel
theorem dX9_land_85 : decode cX9_land 85 = .ok (.istore_n 2, 1) := by decide +kernel
theorem dX9_land_86 : decode cX9_land 86 = .ok (.iload_n 2, 1) := by decide +kernel
theorem dX9_land_87 : decode cX9_land 87 = .ok (.aload_n 0, 1) := by decide +kernel
theorem dX9_land_88 : decode cX9_land 88 = .ok (.getfield 98, 3) := by decide +kernel
theorem dX9_land_91 : decode cX9_land 91 = .ok (.if_icmp .ge 37, 3) := by decide +kernel
theorem dX9_land_94 : decode cX9_land 94 = .ok (.aload_n 0, 1) := by decide +kernel
theorem dX9_land_95 : decode cX9_land 95 = .ok (.iload_n 2, 1) := by decide +kernel
theorem dX9_land_96 : decode cX9_land 96 = .ok (.invokevirtual 148, 3) := by decide +kernel
theorem dX9_land_99 : decode cX9_land 99 = .ok (.ifCond .eq 6, 3) := by decide +kernel
theorem dX9_land_102 : decode cX9_land 102 = .ok (.goto 20, 3) := by decide +kernel
theorem dX9_land_105 : decode cX9_land 105 = .ok (.aload_n 0, 1) := by decide +kernel
theorem dX9_land_106 : decode cX9_land 106 = .ok (.iconst 1, 1) := by decide +kernel
theorem dX9_land_107 : decode cX9_land 107 = .ok (.iconst 0, 1) := by decide +kernel
theorem dX9_land_108 : decode cX9_land 108 = .ok (.invokevirtual 144, 3) := by decide +kernel
theorem dX9_land_111 : decode cX9_land 111 = .ok (.sipush (-2000), 3) := by decide +kernel
theorem dX9_land_114 : decode cX9_land 114 = .ok (.aload_n 0, 1) := by decide +kernel
theorem dX9_land_115 : decode cX9_land 115 = .ok (.getfield 40, 3) := by decide +kernel
theorem dX9_land_118 : decode cX9_land 118 = .ok (.iload_n 2, 1) := by decide +kernel
theorem dX9_land_119 : decode cX9_land 119 = .ok (.iaload, 1) := by decide +kernel
theorem dX9_land_120 : decode cX9_land 120 = .ok (.isub, 1) := by decide +kernel
theorem dX9_land_121 : decode cX9_land 121 = .ok (.ireturn, 1) := by decide +kernel
theorem dX9_land_122 : decode cX9_land 122 = .ok (.iinc 2 1, 3) := by decide +kernel
theorem dX9_land_125 : decode cX9_land 125 = .ok (.goto (-39), 3) := by decide +kernel
theorem dX9_land_128 : decode cX9_land 128 = .ok (.aload_n 0, 1) := by decide +kernel
theorem dX9_land_129 : decode cX9_land 129 = .ok (.iconst 0, 1) := by decide +kernel
theorem dX9_land_130 : decode cX9_land 130 = .ok (.putfield 151, 3) := by decide +kernel
theorem dX9_land_133 : decode cX9_land 133 = .ok (.aload_n 0, 1) := by decide +kernel
theorem dX9_land_134 : decode cX9_land 134 = .ok (.getfield 98, 3) := by decide +kernel
theorem dX9_land_137 : decode cX9_land 137 = .ok (.ireturn, 1) := by decide +kernel
theorem dX9_passes_0 : decode cX9_passes 0 = .ok (.iconst 0, 1) := by decide +kernel
theorem dX9_passes_1 : decode cX9_passes 1 = .ok (.istore_n 2, 1) := by decide +kernel
theorem dX9_passes_2 : decode cX9_passes 2 = .ok (.iload_n 2, 1) := by decide +kernel
theorem dX9_passes_3 : decode cX9_passes 3 = .ok (.aload_n 1, 1) := by decide +kernel
theorem dX9_passes_4 : decode cX9_passes 4 = .ok (.arraylength, 1) := by decide +kernel
theorem dX9_passes_5 : decode cX9_passes 5 = .ok (.if_icmp .ge 53, 3) := by decide +kernel
theorem dX9_passes_8 : decode cX9_passes 8 = .ok (.aload_n 0, 1) := by decide +kernel
theorem dX9_passes_9 : decode cX9_passes 9 = .ok (.getfield 154, 3) := by decide +kernel
theorem dX9_passes_12 : decode cX9_passes 12 = .ok (.ifCond .eq 18, 3) := by decide +kernel
theorem dX9_passes_15 : decode cX9_passes 15 = .ok (.aload_n 0, 1) := by decide +kernel
theorem dX9_passes_16 : decode cX9_passes 16 = .ok (.getfield 46, 3) := by decide +kernel
theorem dX9_passes_19 : decode cX9_passes 19 = .ok (.aload_n 0, 1) := by decide +kernel
theorem dX9_passes_20 : decode cX9_passes 20 = .ok (.getfield 158, 3) := by decide +kernel
theorem dX9_passes_23 : decode cX9_passes 23 = .ok (.aload_n 1, 1) := by decide +kernel
theorem dX9_passes_24 : decode cX9_passes 24 = .ok (.iload_n 2, 1) := by decide +kernel
theorem dX9_passes_25 : decode cX9_passes 25 = .ok (.iaload, 1) := by decide +kernel
theorem dX9_passes_26 : decode cX9_passes 26 = .ok (.iastore, 1) := by decide +kernel
theorem dX9_passes_27 : decode cX9_passes 27 = .ok (.goto 15, 3) := by decide +kernel
theorem dX9_passes_30 : decode cX9_passes 30 = .ok (.aload_n 1, 1) := by decide +kernel
theorem dX9_passes_31 : decode cX9_passes 31 = .ok (.iload_n 2, 1) := by decide +kernel
theorem dX9_passes_32 : decode cX9_passes 32 = .ok (.aload_n 0, 1) := by decide +kernel
theorem dX9_passes_33 : decode cX9_passes 33 = .ok (.getfield 46, 3) := by decide +kernel
theorem dX9_passes_36 : decode cX9_passes 36 = .ok (.aload_n 0, 1) := by decide +kernel
theorem dX9_passes_37 : decode cX9_passes 37 = .ok (.getfield 158, 3) := by decide +kernel
theorem dX9_passes_40 : decode cX9_passes 40 = .ok (.iaload, 1) := by decide +kernel
theorem dX9_passes_41 : decode cX9_passes 41 = .ok (.iastore, 1) := by decide +kernel
theorem dX9_passes_42 : decode cX9_passes 42 = .ok (.aload_n 0, 1) := by decide +kernel
theorem dX9_passes_43 : decode cX9_passes 43 = .ok (.dup, 1) := by decide +kernel
theorem dX9_passes_44 : decode cX9_passes 44 = .ok (.getfield 158, 3) := by decide +kernel
theorem dX9_passes_47 : decode cX9_passes 47 = .ok (.iconst 1, 1) := by decide +kernel
theorem dX9_passes_48 : decode cX9_passes 48 = .ok (.iadd, 1) := by decide +kernel
theorem dX9_passes_49 : decode cX9_passes 49 = .ok (.putfield 158, 3) := by decide +kernel
theorem dX9_passes_52 : decode cX9_passes 52 = .ok (.iinc 2 1, 3) := by decide +kernel
theorem dX9_passes_55 : decode cX9_passes 55 = .ok (.goto (-53), 3) := by decide +kernel
theorem dX9_passes_58 : decode cX9_passes 58 = .ok (.return_, 1) := by decide +kernel
theorem dX9_passOne_0 : decode cX9_passOne 0 = .ok (.aload_n 0, 1) := by decide +kernel
theorem dX9_passOne_1 : decode cX9_passOne 1 = .ok (.getfield 154, 3) := by decide +kernel
theorem dX9_passOne_4 : decode cX9_passOne 4 = .ok (.ifCond .eq 7, 3) := by decide +kernel
theorem dX9_passOne_7 : decode cX9_passOne 7 = .ok (.iload_n 1, 1) := by decide +kernel
theorem dX9_passOne_8 : decode cX9_passOne 8 = .ok (.goto 12, 3) := by decide +kernel
theorem dX9_passOne_11 : decode cX9_passOne 11 = .ok (.aload_n 0, 1) := by decide +kernel
theorem dX9_passOne_12 : decode cX9_passOne 12 = .ok (.getfield 46, 3) := by decide +kernel
theorem dX9_passOne_15 : decode cX9_passOne 15 = .ok (.aload_n 0, 1) := by decide +kernel
theorem dX9_passOne_16 : decode cX9_passOne 16 = .ok (.getfield 158, 3) := by decide +kernel
theorem dX9_passOne_19 : decode cX9_passOne 19 = .ok (.iaload, 1) := by decide +kernel
theorem dX9_passOne_20 : decode cX9_passOne 20 = .ok (.istore_n 2, 1) := by decide +kernel
theorem dX9_passOne_21 : decode cX9_passOne 21 = .ok (.aload_n 0, 1) := by decide +kernel
theorem dX9_passOne_22 : decode cX9_passOne 22 = .ok (.getfield 154, 3) := by decide +kernel
theorem dX9_passOne_25 : decode cX9_passOne 25 = .ok (.ifCond .eq 13, 3) := by decide +kernel
theorem dX9_passOne_28 : decode cX9_passOne 28 = .ok (.aload_n 0, 1) := by decide +kernel
theorem dX9_passOne_29 : decode cX9_passOne 29 = .ok (.getfield 46, 3) := by decide +kernel
theorem dX9_passOne_32 : decode cX9_passOne 32 = .ok (.aload_n 0, 1) := by decide +kernel
theorem dX9_passOne_33 : decode cX9_passOne 33 = .ok (.getfield 158, 3) := by decide +kernel
theorem dX9_passOne_36 : decode cX9_passOne 36 = .ok (.iload_n 1, 1) := by decide +kernel
theorem dX9_passOne_37 : decode cX9_passOne 37 = .ok (.iastore, 1) := by decide +kernel
theorem dX9_passOne_38 : decode cX9_passOne 38 = .ok (.aload_n 0, 1) := by decide +kernel
theorem dX9_passOne_39 : decode cX9_passOne 39 = .ok (.dup, 1) := by decide +kernel
theorem dX9_passOne_40 : decode cX9_passOne 40 = .ok (.getfield 158, 3) := by decide +kernel
theorem dX9_passOne_43 : decode cX9_passOne 43 = .ok (.iconst 1, 1) := by decide +kernel
theorem dX9_passOne_44 : decode cX9_passOne 44 = .ok (.iadd, 1) := by decide +kernel
theorem dX9_passOne_45 : decode cX9_passOne 45 = .ok (.putfield 158, 3) := by decide +kernel
theorem dX9_passOne_48 : decode cX9_passOne 48 = .ok (.iload_n 2, 1) := by decide +kernel
theorem dX9_passOne_49 : decode cX9_passOne 49 = .ok (.ireturn, 1) := by decide +kernel
theorem dX9_passesAll_0 : decode cX9_passesAll 0 = .ok (.aload_n 0, 1) := by decide +kernel
theorem dX9_passesAll_1 : decode cX9_passesAll 1 = .ok (.bipush 75, 2) := by decide +kernel
theorem dX9_passesAll_3 : decode cX9_passesAll 3 = .ok (.iload_n 1, 1) := by decide +kernel
theorem dX9_passesAll_4 : decode cX9_passesAll 4 = .ok (.imul, 1) := by decide +kernel
theorem dX9_passesAll_5 : decode cX9_passesAll 5 = .ok (.putfield 158, 3) := by decide +kernel
theorem dX9_passesAll_8 : decode cX9_passesAll 8 = .ok (.aload_n 0, 1) := by decide +kernel
theorem dX9_passesAll_9 : decode cX9_passesAll 9 = .ok (.iload_n 2, 1) := by decide +kernel
theorem dX9_passesAll_10 : decode cX9_passesAll 10 = .ok (.putfield 154, 3) := by decide +kernel
theorem dX9_passesAll_13 : decode cX9_passesAll 13 = .ok (.aload_n 0, 1) := by decide +kernel
theorem dX9_passesAll_14 : decode cX9_passesAll 14 = .ok (.aload_n 0, 1) := by decide +kernel
theorem dX9_passesAll_15 : decode cX9_passesAll 15 = .ok (.getfield 13, 3) := by decide +kernel
theorem dX9_passesAll_18 : decode cX9_passesAll 18 = .ok (.invokevirtual 161, 3) := by decide +kernel
theorem dX9_passesAll_21 : decode cX9_passesAll 21 = .ok (.aload_n 0, 1) := by decide +kernel
theorem dX9_passesAll_22 : decode cX9_passesAll 22 = .ok (.aload_n 0, 1) := by decide +kernel
theorem dX9_passesAll_23 : decode cX9_passesAll 23 = .ok (.getfield 16, 3) := by decide +kernel
theorem dX9_passesAll_26 : decode cX9_passesAll 26 = .ok (.invokevirtual 161, 3) := by decide +kernel
theorem dX9_passesAll_29 : decode cX9_passesAll 29 = .ok (.aload_n 0, 1) := by decide +kernel
theorem dX9_passesAll_30 : decode cX9_passesAll 30 = .ok (.aload_n 0, 1) := by decide +kernel
theorem dX9_passesAll_31 : decode cX9_passesAll 31 = .ok (.getfield 19, 3) := by decide +kernel
theorem dX9_passesAll_34 : decode cX9_passesAll 34 = .ok (.invokevirtual 161, 3) := by decide +kernel
theorem dX9_passesAll_37 : decode cX9_passesAll 37 = .ok (.aload_n 0, 1) := by decide +kernel
theorem dX9_passesAll_38 : decode cX9_passesAll 38 = .ok (.aload_n 0, 1) := by decide +kernel
theorem dX9_passesAll_39 : decode cX9_passesAll 39 = .ok (.getfield 22, 3) := by decide +kernel
theorem dX9_passesAll_42 : decode cX9_passesAll 42 = .ok (.invokevirtual 161, 3) := by decide +kernel
theorem dX9_passesAll_45 : decode cX9_passesAll 45 = .ok (.aload_n 0, 1) := by decide +kernel
theorem dX9_passesAll_46 : decode cX9_passesAll 46 = .ok (.aload_n 0, 1) := by decide +kernel
theorem dX9_passesAll_47 : decode cX9_passesAll 47 = .ok (.getfield 25, 3) := by decide +kernel
theorem dX9_passesAll_50 : decode cX9_passesAll 50 = .ok (.invokevirtual 161, 3) := by decide +kernel
theorem dX9_passesAll_53 : decode cX9_passesAll 53 = .ok (.aload_n 0, 1) := by decide +kernel
theorem dX9_passesAll_54 : decode cX9_passesAll 54 = .ok (.aload_n 0, 1) := by decide +kernel
theorem dX9_passesAll_55 : decode cX9_passesAll 55 = .ok (.getfield 28, 3) := by decide +kernel
theorem dX9_passesAll_58 : decode cX9_passesAll 58 = .ok (.invokevirtual 161, 3) := by decide +kernel
theorem dX9_passesAll_61 : decode cX9_passesAll 61 = .ok (.aload_n 0, 1) := by decide +kernel
theorem dX9_passesAll_62 : decode cX9_passesAll 62 = .ok (.aload_n 0, 1) := by decide +kernel
theorem dX9_passesAll_63 : decode cX9_passesAll 63 = .ok (.getfield 31, 3) := by decide +kernel
theorem dX9_passesAll_66 : decode cX9_passesAll 66 = .ok (.invokevirtual 161, 3) := by decide +kernel
theorem dX9_passesAll_69 : decode cX9_passesAll 69 = .ok (.aload_n 0, 1) := by decide +kernel
theorem dX9_passesAll_70 : decode cX9_passesAll 70 = .ok (.aload_n 0, 1) := by decide +kernel
theorem dX9_passesAll_71 : decode cX9_passesAll 71 = .ok (.aload_n 0, 1) := by decide +kernel
theorem dX9_passesAll_72 : decode cX9_passesAll 72 = .ok (.getfield 65, 3) := by decide +kernel
theorem dX9_passesAll_75 : decode cX9_passesAll 75 = .ok (.invokevirtual 165, 3) := by decide +kernel
theorem dX9_passesAll_78 : decode cX9_passesAll 78 = .ok (.putfield 65, 3) := by decide +kernel
theorem dX9_passesAll_81 : decode cX9_passesAll 81 = .ok (.aload_n 0, 1) := by decide +kernel
theorem dX9_passesAll_82 : decode cX9_passesAll 82 = .ok (.aload_n 0, 1) := by decide +kernel
theorem dX9_passesAll_83 : decode cX9_passesAll 83 = .ok (.aload_n 0, 1) := by decide +kernel
theorem dX9_passesAll_84 : decode cX9_passesAll 84 = .ok (.getfield 58, 3) := by decide +kernel
theorem dX9_passesAll_87 : decode cX9_passesAll 87 = .ok (.invokevirtual 165, 3) := by decide +kernel
theorem dX9_passesAll_90 : decode cX9_passesAll 90 = .ok (.putfield 58, 3) := by decide +kernel
theorem dX9_passesAll_93 : decode cX9_passesAll 93 = .ok (.aload_n 0, 1) := by decide +kernel
theorem dX9_passesAll_94 : decode cX9_passesAll 94 = .ok (.aload_n 0, 1) := by decide +kernel
theorem dX9_passesAll_95 : decode cX9_passesAll 95 = .ok (.aload_n 0, 1) := by decide +kernel
theorem dX9_passesAll_96 : decode cX9_passesAll 96 = .ok (.getfield 115, 3) := by decide +kernel
theorem dX9_passesAll_99 : decode cX9_passesAll 99 = .ok (.invokevirtual 165, 3) := by decide +kernel
theorem dX9_passesAll_102 : decode cX9_passesAll 102 = .ok (.putfield 115, 3) := by decide +kernel
theorem dX9_passesAll_105 : decode cX9_passesAll 105 = .ok (.return_, 1) := by decide +kernel
theorem dX9_thinks_0 : decode cX9_thinks 0 = .ok (.aload_n 0, 1) := by decide +kernel
theorem dX9_thinks_1 : decode cX9_thinks 1 = .ok (.iconst 2, 1) := by decide +kernel
theorem dX9_thinks_2 : decode cX9_thinks 2 = .ok (.iconst 1, 1) := by decide +kernel
theorem dX9_thinks_3 : decode cX9_thinks 3 = .ok (.invokevirtual 144, 3) := by decide +kernel
theorem dX9_thinks_6 : decode cX9_thinks 6 = .ok (.return_, 1) := by decide +kernel
theorem dX9_forgets_0 : decode cX9_forgets 0 = .ok (.aload_n 0, 1) := by decide +kernel
theorem dX9_forgets_1 : decode cX9_forgets 1 = .ok (.iconst 2, 1) := by decide +kernel
theorem dX9_forgets_2 : decode cX9_forgets 2 = .ok (.iconst 0, 1) := by decide +kernel
theorem dX9_forgets_3 : decode cX9_forgets 3 = .ok (.invokevirtual 144, 3) := by decide +kernel
theorem dX9_forgets_6 : decode cX9_forgets 6 = .ok (.return_, 1) := by decide +kernel
theorem dX9_changes_0 : decode cX9_changes 0 = .ok (.aload_n 0, 1) := by decide +kernel
theorem dX9_changes_1 : decode cX9_changes 1 = .ok (.iconst 1, 1) := by decide +kernel
theorem dX9_changes_2 : decode cX9_changes 2 = .ok (.iconst 1, 1) := by decide +kernel
theorem dX9_changes_3 : decode cX9_changes 3 = .ok (.invokevirtual 144, 3) := by decide +kernel
theorem dX9_changes_6 : decode cX9_changes 6 = .ok (.return_, 1) := by decide +kernel
theorem dX9_changesBack_0 : decode cX9_changesBack 0 = .ok (.aload_n 0, 1) := by decide +kernel
theorem dX9_changesBack_1 : decode cX9_changesBack 1 = .ok (.iconst 1, 1) := by decide +kernel
theorem dX9_changesBack_2 : decode cX9_changesBack 2 = .ok (.iconst 0, 1) := by decide +kernel
theorem dX9_changesBack_3 : decode cX9_changesBack 3 = .ok (.invokevirtual 144, 3) := by decide +kernel
theorem dX9_changesBack_6 : decode cX9_changesBack 6 = .ok (.return_, 1) := by decide +kernel
theorem dX9_keepsBack_0 : decode cX9_keepsBack 0 = .ok (.aload_n 0, 1) := by decide +kernel
theorem dX9_keepsBack_1 : decode cX9_keepsBack 1 = .ok (.getfield 151, 3) := by decide +kernel
theorem dX9_keepsBack_4 : decode cX9_keepsBack 4 = .ok (.bipush 8, 2) := by decide +kernel
theorem dX9_keepsBack_6 : decode cX9_keepsBack 6 = .ok (.if_icmp .ne 45, 3) := by decide +kernel
theorem dX9_keepsBack_9 : decode cX9_keepsBack 9 = .ok (.sipush 225, 3) := by decide +kernel
theorem dX9_keepsBack_12 : decode cX9_keepsBack 12 = .ok (.istore_n 1, 1) := by decide +kernel
theorem dX9_keepsBack_13 : decode cX9_keepsBack 13 = .ok (.iload_n 1, 1) := by decide +kernel
theorem dX9_keepsBack_14 : decode cX9_keepsBack 14 = .ok (.sipush 750, 3) := by decide +kernel
theorem dX9_keepsBack_17 : decode cX9_keepsBack 17 = .ok (.if_icmp .ge 24, 3) := by decide +kernel
theorem dX9_keepsBack_20 : decode cX9_keepsBack 20 = .ok (.aload_n 0, 1) := by decide +kernel
theorem dX9_keepsBack_21 : decode cX9_keepsBack 21 = .ok (.getfield 46, 3) := by decide +kernel
theorem dX9_keepsBack_24 : decode cX9_keepsBack 24 = .ok (.iload_n 1, 1) := by decide +kernel
theorem dX9_keepsBack_25 : decode cX9_keepsBack 25 = .ok (.aload_n 0, 1) := by decide +kernel
theorem dX9_keepsBack_26 : decode cX9_keepsBack 26 = .ok (.getfield 46, 3) := by decide +kernel
theorem dX9_keepsBack_29 : decode cX9_keepsBack 29 = .ok (.iload_n 1, 1) := by decide +kernel
theorem dX9_keepsBack_30 : decode cX9_keepsBack 30 = .ok (.bipush 75, 2) := by decide +kernel
theorem dX9_keepsBack_32 : decode cX9_keepsBack 32 = .ok (.iadd, 1) := by decide +kernel
theorem dX9_keepsBack_33 : decode cX9_keepsBack 33 = .ok (.iaload, 1) := by decide +kernel
theorem dX9_keepsBack_34 : decode cX9_keepsBack 34 = .ok (.iastore, 1) := by decide +kernel
theorem dX9_keepsBack_35 : decode cX9_keepsBack 35 = .ok (.iinc 1 1, 3) := by decide +kernel
theorem dX9_keepsBack_38 : decode cX9_keepsBack 38 = .ok (.goto (-25), 3) := by decide +kernel
theorem dX9_keepsBack_41 : decode cX9_keepsBack 41 = .ok (.aload_n 0, 1) := by decide +kernel
theorem dX9_keepsBack_42 : decode cX9_keepsBack 42 = .ok (.dup, 1) := by decide +kernel
theorem dX9_keepsBack_43 : decode cX9_keepsBack 43 = .ok (.getfield 151, 3) := by decide +kernel
theorem dX9_keepsBack_46 : decode cX9_keepsBack 46 = .ok (.iconst 1, 1) := by decide +kernel
theorem dX9_keepsBack_47 : decode cX9_keepsBack 47 = .ok (.isub, 1) := by decide +kernel
theorem dX9_keepsBack_48 : decode cX9_keepsBack 48 = .ok (.putfield 151, 3) := by decide +kernel
theorem dX9_keepsBack_51 : decode cX9_keepsBack 51 = .ok (.aload_n 0, 1) := by decide +kernel
theorem dX9_keepsBack_52 : decode cX9_keepsBack 52 = .ok (.iconst 3, 1) := by decide +kernel
theorem dX9_keepsBack_53 : decode cX9_keepsBack 53 = .ok (.aload_n 0, 1) := by decide +kernel
theorem dX9_keepsBack_54 : decode cX9_keepsBack 54 = .ok (.getfield 151, 3) := by decide +kernel
theorem dX9_keepsBack_57 : decode cX9_keepsBack 57 = .ok (.iadd, 1) := by decide +kernel
theorem dX9_keepsBack_58 : decode cX9_keepsBack 58 = .ok (.iconst 1, 1) := by decide +kernel
theorem dX9_keepsBack_59 : decode cX9_keepsBack 59 = .ok (.invokevirtual 144, 3) := by decide +kernel
theorem dX9_keepsBack_62 : decode cX9_keepsBack 62 = .ok (.aload_n 0, 1) := by decide +kernel
theorem dX9_keepsBack_63 : decode cX9_keepsBack 63 = .ok (.dup, 1) := by decide +kernel
theorem dX9_keepsBack_64 : decode cX9_keepsBack 64 = .ok (.getfield 151, 3) := by decide +kernel
theorem dX9_keepsBack_67 : decode cX9_keepsBack 67 = .ok (.iconst 1, 1) := by decide +kernel
theorem dX9_keepsBack_68 : decode cX9_keepsBack 68 = .ok (.iadd, 1) := by decide +kernel
theorem dX9_keepsBack_69 : decode cX9_keepsBack 69 = .ok (.putfield 151, 3) := by decide +kernel
theorem dX9_keepsBack_72 : decode cX9_keepsBack 72 = .ok (.return_, 1) := by decide +kernel
theorem dX9_back_0 : decode cX9_back 0 = .ok (.aload_n 0, 1) := by decide +kernel
theorem dX9_back_1 : decode cX9_back 1 = .ok (.getfield 151, 3) := by decide +kernel
theorem dX9_back_4 : decode cX9_back 4 = .ok (.ifCond .ne 10, 3) := by decide +kernel
theorem dX9_back_7 : decode cX9_back 7 = .ok (.aload_n 0, 1) := by decide +kernel
theorem dX9_back_8 : decode cX9_back 8 = .ok (.bipush (-3), 2) := by decide +kernel
theorem dX9_back_10 : decode cX9_back 10 = .ok (.invokevirtual 79, 3) := by decide +kernel
theorem dX9_back_13 : decode cX9_back 13 = .ok (.ireturn, 1) := by decide +kernel
theorem dX9_back_14 : decode cX9_back 14 = .ok (.aload_n 0, 1) := by decide +kernel
theorem dX9_back_15 : decode cX9_back 15 = .ok (.dup, 1) := by decide +kernel
theorem dX9_back_16 : decode cX9_back 16 = .ok (.getfield 151, 3) := by decide +kernel
theorem dX9_back_19 : decode cX9_back 19 = .ok (.iconst 1, 1) := by decide +kernel
theorem dX9_back_20 : decode cX9_back 20 = .ok (.isub, 1) := by decide +kernel
theorem dX9_back_21 : decode cX9_back 21 = .ok (.putfield 151, 3) := by decide +kernel
theorem dX9_back_24 : decode cX9_back 24 = .ok (.aload_n 0, 1) := by decide +kernel
theorem dX9_back_25 : decode cX9_back 25 = .ok (.iconst 3, 1) := by decide +kernel
theorem dX9_back_26 : decode cX9_back 26 = .ok (.aload_n 0, 1) := by decide +kernel
theorem dX9_back_27 : decode cX9_back 27 = .ok (.getfield 151, 3) := by decide +kernel
theorem dX9_back_30 : decode cX9_back 30 = .ok (.iadd, 1) := by decide +kernel
theorem dX9_back_31 : decode cX9_back 31 = .ok (.iconst 0, 1) := by decide +kernel
theorem dX9_back_32 : decode cX9_back 32 = .ok (.invokevirtual 144, 3) := by decide +kernel
theorem dX9_back_35 : decode cX9_back 35 = .ok (.aload_n 0, 1) := by decide +kernel
theorem dX9_back_36 : decode cX9_back 36 = .ok (.getfield 151, 3) := by decide +kernel
theorem dX9_back_39 : decode cX9_back 39 = .ok (.ireturn, 1) := by decide +kernel
theorem dX9_image_0 : decode cX9_image 0 = .ok (.aload_n 0, 1) := by decide +kernel
theorem dX9_image_1 : decode cX9_image 1 = .ok (.iconst 1, 1) := by decide +kernel
theorem dX9_image_2 : decode cX9_image 2 = .ok (.putfield 168, 3) := by decide +kernel
theorem dX9_image_5 : decode cX9_image 5 = .ok (.aload_n 0, 1) := by decide +kernel
theorem dX9_image_6 : decode cX9_image 6 = .ok (.iconst 0, 1) := by decide +kernel
theorem dX9_image_7 : decode cX9_image 7 = .ok (.iconst 1, 1) := by decide +kernel
theorem dX9_image_8 : decode cX9_image 8 = .ok (.invokevirtual 144, 3) := by decide +kernel
theorem dX9_image_11 : decode cX9_image 11 = .ok (.aload_n 0, 1) := by decide +kernel
theorem dX9_image_12 : decode cX9_image 12 = .ok (.getfield 115, 3) := by decide +kernel
theorem dX9_image_15 : decode cX9_image 15 = .ok (.ireturn, 1) := by decide +kernel
theorem dX9_restore_0 : decode cX9_restore 0 = .ok (.aload_n 0, 1) := by decide +kernel
theorem dX9_restore_1 : decode cX9_restore 1 = .ok (.getfield 168, 3) := by decide +kernel
theorem dX9_restore_4 : decode cX9_restore 4 = .ok (.ifCond .ne 10, 3) := by decide +kernel
theorem dX9_restore_7 : decode cX9_restore 7 = .ok (.aload_n 0, 1) := by decide +kernel
theorem dX9_restore_8 : decode cX9_restore 8 = .ok (.bipush (-3), 2) := by decide +kernel
theorem dX9_restore_10 : decode cX9_restore 10 = .ok (.invokevirtual 79, 3) := by decide +kernel
theorem dX9_restore_13 : decode cX9_restore 13 = .ok (.ireturn, 1) := by decide +kernel
theorem dX9_restore_14 : decode cX9_restore 14 = .ok (.aload_n 0, 1) := by decide +kernel
theorem dX9_restore_15 : decode cX9_restore 15 = .ok (.iconst 0, 1) := by decide +kernel
theorem dX9_restore_16 : decode cX9_restore 16 = .ok (.iconst 0, 1) := by decide +kernel
theorem dX9_restore_17 : decode cX9_restore 17 = .ok (.invokevirtual 144, 3) := by decide +kernel
theorem dX9_restore_20 : decode cX9_restore 20 = .ok (.aload_n 0, 1) := by decide +kernel
theorem dX9_restore_21 : decode cX9_restore 21 = .ok (.iconst 0, 1) := by decide +kernel
theorem dX9_restore_22 : decode cX9_restore 22 = .ok (.putfield 151, 3) := by decide +kernel
theorem dX9_restore_25 : decode cX9_restore 25 = .ok (.aload_n 0, 1) := by decide +kernel
theorem dX9_restore_26 : decode cX9_restore 26 = .ok (.getfield 115, 3) := by decide +kernel
theorem dX9_restore_29 : decode cX9_restore 29 = .ok (.ireturn, 1) := by decide +kernel
theorem dX9_addsKeeper_0 : decode cX9_addsKeeper 0 = .ok (.aload_n 0, 1) := by decide +kernel
theorem dX9_addsKeeper_1 : decode cX9_addsKeeper 1 = .ok (.getfield 13, 3) := by decide +kernel
theorem dX9_addsKeeper_4 : decode cX9_addsKeeper 4 = .ok (.aload_n 0, 1) := by decide +kernel
theorem dX9_addsKeeper_5 : decode cX9_addsKeeper 5 = .ok (.getfield 65, 3) := by decide +kernel
theorem dX9_addsKeeper_8 : decode cX9_addsKeeper 8 = .ok (.iload_n 1, 1) := by decide +kernel
theorem dX9_addsKeeper_9 : decode cX9_addsKeeper 9 = .ok (.iastore, 1) := by decide +kernel
theorem dX9_addsKeeper_10 : decode cX9_addsKeeper 10 = .ok (.aload_n 0, 1) := by decide +kernel
theorem dX9_addsKeeper_11 : decode cX9_addsKeeper 11 = .ok (.getfield 16, 3) := by decide +kernel
theorem dX9_addsKeeper_14 : decode cX9_addsKeeper 14 = .ok (.aload_n 0, 1) := by decide +kernel
theorem dX9_addsKeeper_15 : decode cX9_addsKeeper 15 = .ok (.getfield 65, 3) := by decide +kernel
theorem dX9_addsKeeper_18 : decode cX9_addsKeeper 18 = .ok (.iload_n 2, 1) := by decide +kernel
theorem dX9_addsKeeper_19 : decode cX9_addsKeeper 19 = .ok (.iastore, 1) := by decide +kernel
theorem dX9_addsKeeper_20 : decode cX9_addsKeeper 20 = .ok (.aload_n 0, 1) := by decide +kernel
theorem dX9_addsKeeper_21 : decode cX9_addsKeeper 21 = .ok (.getfield 19, 3) := by decide +kernel
theorem dX9_addsKeeper_24 : decode cX9_addsKeeper 24 = .ok (.aload_n 0, 1) := by decide +kernel
theorem dX9_addsKeeper_25 : decode cX9_addsKeeper 25 = .ok (.getfield 65, 3) := by decide +kernel
theorem dX9_addsKeeper_28 : decode cX9_addsKeeper 28 = .ok (.iload_n 3, 1) := by decide +kernel
theorem dX9_addsKeeper_29 : decode cX9_addsKeeper 29 = .ok (.iastore, 1) := by decide +kernel
theorem dX9_addsKeeper_30 : decode cX9_addsKeeper 30 = .ok (.iconst 0, 1) := by decide +kernel
theorem dX9_addsKeeper_31 : decode cX9_addsKeeper 31 = .ok (.istore 4, 2) := by decide +kernel
theorem dX9_addsKeeper_33 : decode cX9_addsKeeper 33 = .ok (.iload 4, 2) := by decide +kernel
theorem dX9_addsKeeper_35 : decode cX9_addsKeeper 35 = .ok (.aload_n 0, 1) := by decide +kernel
theorem dX9_addsKeeper_36 : decode cX9_addsKeeper 36 = .ok (.getfield 65, 3) := by decide +kernel
theorem dX9_addsKeeper_39 : decode cX9_addsKeeper 39 = .ok (.if_icmp .ge 21, 3) := by decide +kernel
theorem dX9_addsKeeper_42 : decode cX9_addsKeeper 42 = .ok (.aload_n 0, 1) := by decide +kernel
theorem dX9_addsKeeper_43 : decode cX9_addsKeeper 43 = .ok (.iload 4, 2) := by decide +kernel
theorem dX9_addsKeeper_45 : decode cX9_addsKeeper 45 = .ok (.aload_n 0, 1) := by decide +kernel
theorem dX9_addsKeeper_46 : decode cX9_addsKeeper 46 = .ok (.getfield 65, 3) := by decide +kernel
theorem dX9_addsKeeper_49 : decode cX9_addsKeeper 49 = .ok (.bipush 20, 2) := by decide +kernel
theorem dX9_addsKeeper_51 : decode cX9_addsKeeper 51 = .ok (.invokevirtual 128, 3) := by decide +kernel
theorem dX9_addsKeeper_54 : decode cX9_addsKeeper 54 = .ok (.iinc 4 1, 3) := by decide +kernel
theorem dX9_addsKeeper_57 : decode cX9_addsKeeper 57 = .ok (.goto (-24), 3) := by decide +kernel
theorem dX9_addsKeeper_60 : decode cX9_addsKeeper 60 = .ok (.aload_n 0, 1) := by decide +kernel
theorem dX9_addsKeeper_61 : decode cX9_addsKeeper 61 = .ok (.dup, 1) := by decide +kernel
theorem dX9_addsKeeper_62 : decode cX9_addsKeeper 62 = .ok (.getfield 65, 3) := by decide +kernel
theorem dX9_addsKeeper_65 : decode cX9_addsKeeper 65 = .ok (.iconst 1, 1) := by decide +kernel
theorem dX9_addsKeeper_66 : decode cX9_addsKeeper 66 = .ok (.iadd, 1) := by decide +kernel
theorem dX9_addsKeeper_67 : decode cX9_addsKeeper 67 = .ok (.putfield 65, 3) := by decide +kernel
theorem dX9_addsKeeper_70 : decode cX9_addsKeeper 70 = .ok (.return_, 1) := by decide +kernel
theorem dX9_addsLetter_0 : decode cX9_addsLetter 0 = .ok (.aload_n 0, 1) := by decide +kernel
theorem dX9_addsLetter_1 : decode cX9_addsLetter 1 = .ok (.getfield 25, 3) := by decide +kernel
theorem dX9_addsLetter_4 : decode cX9_addsLetter 4 = .ok (.aload_n 0, 1) := by decide +kernel
theorem dX9_addsLetter_5 : decode cX9_addsLetter 5 = .ok (.getfield 58, 3) := by decide +kernel
theorem dX9_addsLetter_8 : decode cX9_addsLetter 8 = .ok (.iload_n 2, 1) := by decide +kernel
theorem dX9_addsLetter_9 : decode cX9_addsLetter 9 = .ok (.iastore, 1) := by decide +kernel
theorem dX9_addsLetter_10 : decode cX9_addsLetter 10 = .ok (.aload_n 0, 1) := by decide +kernel
theorem dX9_addsLetter_11 : decode cX9_addsLetter 11 = .ok (.getfield 28, 3) := by decide +kernel
theorem dX9_addsLetter_14 : decode cX9_addsLetter 14 = .ok (.aload_n 0, 1) := by decide +kernel
theorem dX9_addsLetter_15 : decode cX9_addsLetter 15 = .ok (.getfield 58, 3) := by decide +kernel
theorem dX9_addsLetter_18 : decode cX9_addsLetter 18 = .ok (.iload_n 1, 1) := by decide +kernel
theorem dX9_addsLetter_19 : decode cX9_addsLetter 19 = .ok (.iastore, 1) := by decide +kernel
theorem dX9_addsLetter_20 : decode cX9_addsLetter 20 = .ok (.aload_n 0, 1) := by decide +kernel
theorem dX9_addsLetter_21 : decode cX9_addsLetter 21 = .ok (.getfield 31, 3) := by decide +kernel
theorem dX9_addsLetter_24 : decode cX9_addsLetter 24 = .ok (.aload_n 0, 1) := by decide +kernel
theorem dX9_addsLetter_25 : decode cX9_addsLetter 25 = .ok (.getfield 58, 3) := by decide +kernel
theorem dX9_addsLetter_28 : decode cX9_addsLetter 28 = .ok (.iconst 0, 1) := by decide +kernel
theorem dX9_addsLetter_29 : decode cX9_addsLetter 29 = .ok (.iastore, 1) := by decide +kernel
theorem dX9_addsLetter_30 : decode cX9_addsLetter 30 = .ok (.aload_n 0, 1) := by decide +kernel
theorem dX9_addsLetter_31 : decode cX9_addsLetter 31 = .ok (.dup, 1) := by decide +kernel
theorem dX9_addsLetter_32 : decode cX9_addsLetter 32 = .ok (.getfield 58, 3) := by decide +kernel
theorem dX9_addsLetter_35 : decode cX9_addsLetter 35 = .ok (.iconst 1, 1) := by decide +kernel
theorem dX9_addsLetter_36 : decode cX9_addsLetter 36 = .ok (.iadd, 1) := by decide +kernel
theorem dX9_addsLetter_37 : decode cX9_addsLetter 37 = .ok (.putfield 58, 3) := by decide +kernel
theorem dX9_addsLetter_40 : decode cX9_addsLetter 40 = .ok (.return_, 1) := by decide +kernel
theorem dX9_fadesOf_0 : decode cX9_fadesOf 0 = .ok (.aload_n 0, 1) := by decide +kernel
theorem dX9_fadesOf_1 : decode cX9_fadesOf 1 = .ok (.getfield 13, 3) := by decide +kernel
theorem dX9_fadesOf_4 : decode cX9_fadesOf 4 = .ok (.iload_n 1, 1) := by decide +kernel
theorem dX9_fadesOf_5 : decode cX9_fadesOf 5 = .ok (.iaload, 1) := by decide +kernel
theorem dX9_fadesOf_6 : decode cX9_fadesOf 6 = .ok (.tableswitch 51 1 5 #[34, 36, 38, 34, 49], 34) := by decide +kernel
theorem dX9_fadesOf_40 : decode cX9_fadesOf 40 = .ok (.iconst 0, 1) := by decide +kernel
theorem dX9_fadesOf_41 : decode cX9_fadesOf 41 = .ok (.ireturn, 1) := by decide +kernel
theorem dX9_fadesOf_42 : decode cX9_fadesOf 42 = .ok (.iconst 2, 1) := by decide +kernel
theorem dX9_fadesOf_43 : decode cX9_fadesOf 43 = .ok (.ireturn, 1) := by decide +kernel
theorem dX9_fadesOf_44 : decode cX9_fadesOf 44 = .ok (.aload_n 0, 1) := by decide +kernel
theorem dX9_fadesOf_45 : decode cX9_fadesOf 45 = .ok (.getfield 16, 3) := by decide +kernel
theorem dX9_fadesOf_48 : decode cX9_fadesOf 48 = .ok (.iload_n 1, 1) := by decide +kernel
theorem dX9_fadesOf_49 : decode cX9_fadesOf 49 = .ok (.iaload, 1) := by decide +kernel
theorem dX9_fadesOf_50 : decode cX9_fadesOf 50 = .ok (.iconst 2, 1) := by decide +kernel
theorem dX9_fadesOf_51 : decode cX9_fadesOf 51 = .ok (.idiv, 1) := by decide +kernel
theorem dX9_fadesOf_52 : decode cX9_fadesOf 52 = .ok (.iconst 1, 1) := by decide +kernel
theorem dX9_fadesOf_53 : decode cX9_fadesOf 53 = .ok (.iadd, 1) := by decide +kernel
theorem dX9_fadesOf_54 : decode cX9_fadesOf 54 = .ok (.ireturn, 1) := by decide +kernel
theorem dX9_fadesOf_55 : decode cX9_fadesOf 55 = .ok (.iconst 3, 1) := by decide +kernel
theorem dX9_fadesOf_56 : decode cX9_fadesOf 56 = .ok (.ireturn, 1) := by decide +kernel
theorem dX9_fadesOf_57 : decode cX9_fadesOf 57 = .ok (.iconst 1, 1) := by decide +kernel
theorem dX9_fadesOf_58 : decode cX9_fadesOf 58 = .ok (.ireturn, 1) := by decide +kernel
theorem dX9_stirsOf_0 : decode cX9_stirsOf 0 = .ok (.aload_n 0, 1) := by decide +kernel
theorem dX9_stirsOf_1 : decode cX9_stirsOf 1 = .ok (.getfield 13, 3) := by decide +kernel
theorem dX9_stirsOf_4 : decode cX9_stirsOf 4 = .ok (.iload_n 1, 1) := by decide +kernel
theorem dX9_stirsOf_5 : decode cX9_stirsOf 5 = .ok (.iaload, 1) := by decide +kernel
theorem dX9_stirsOf_6 : decode cX9_stirsOf 6 = .ok (.iconst 1, 1) := by decide +kernel
theorem dX9_stirsOf_7 : decode cX9_stirsOf 7 = .ok (.if_icmp .ne 7, 3) := by decide +kernel
theorem dX9_stirsOf_10 : decode cX9_stirsOf 10 = .ok (.iconst 1, 1) := by decide +kernel
theorem dX9_stirsOf_11 : decode cX9_stirsOf 11 = .ok (.goto 27, 3) := by decide +kernel
theorem dX9_stirsOf_14 : decode cX9_stirsOf 14 = .ok (.aload_n 0, 1) := by decide +kernel
theorem dX9_stirsOf_15 : decode cX9_stirsOf 15 = .ok (.getfield 13, 3) := by decide +kernel
theorem dX9_stirsOf_18 : decode cX9_stirsOf 18 = .ok (.iload_n 1, 1) := by decide +kernel
theorem dX9_stirsOf_19 : decode cX9_stirsOf 19 = .ok (.iaload, 1) := by decide +kernel
theorem dX9_stirsOf_20 : decode cX9_stirsOf 20 = .ok (.iconst 4, 1) := by decide +kernel
theorem dX9_stirsOf_21 : decode cX9_stirsOf 21 = .ok (.if_icmp .ne 16, 3) := by decide +kernel
theorem dX9_stirsOf_24 : decode cX9_stirsOf 24 = .ok (.aload_n 0, 1) := by decide +kernel
theorem dX9_stirsOf_25 : decode cX9_stirsOf 25 = .ok (.getfield 16, 3) := by decide +kernel
theorem dX9_stirsOf_28 : decode cX9_stirsOf 28 = .ok (.iload_n 1, 1) := by decide +kernel
theorem dX9_stirsOf_29 : decode cX9_stirsOf 29 = .ok (.iaload, 1) := by decide +kernel
theorem dX9_stirsOf_30 : decode cX9_stirsOf 30 = .ok (.iconst 4, 1) := by decide +kernel
theorem dX9_stirsOf_31 : decode cX9_stirsOf 31 = .ok (.idiv, 1) := by decide +kernel
theorem dX9_stirsOf_32 : decode cX9_stirsOf 32 = .ok (.iconst 1, 1) := by decide +kernel
theorem dX9_stirsOf_33 : decode cX9_stirsOf 33 = .ok (.iadd, 1) := by decide +kernel
theorem dX9_stirsOf_34 : decode cX9_stirsOf 34 = .ok (.goto 4, 3) := by decide +kernel
theorem dX9_stirsOf_37 : decode cX9_stirsOf 37 = .ok (.iconst 0, 1) := by decide +kernel
theorem dX9_stirsOf_38 : decode cX9_stirsOf 38 = .ok (.ireturn, 1) := by decide +kernel
theorem dX9_payOf_0 : decode cX9_payOf 0 = .ok (.aload_n 0, 1) := by decide +kernel
theorem dX9_payOf_1 : decode cX9_payOf 1 = .ok (.getfield 13, 3) := by decide +kernel
theorem dX9_payOf_4 : decode cX9_payOf 4 = .ok (.iload_n 1, 1) := by decide +kernel
theorem dX9_payOf_5 : decode cX9_payOf 5 = .ok (.iaload, 1) := by decide +kernel
theorem dX9_payOf_6 : decode cX9_payOf 6 = .ok (.tableswitch 62 1 5 #[34, 45, 47, 49, 60], 34) := by decide +kernel
theorem dX9_payOf_40 : decode cX9_payOf 40 = .ok (.iconst 2, 1) := by decide +kernel
theorem dX9_payOf_41 : decode cX9_payOf 41 = .ok (.aload_n 0, 1) := by decide +kernel
theorem dX9_payOf_42 : decode cX9_payOf 42 = .ok (.getfield 16, 3) := by decide +kernel
theorem dX9_payOf_45 : decode cX9_payOf 45 = .ok (.iload_n 1, 1) := by decide +kernel
theorem dX9_payOf_46 : decode cX9_payOf 46 = .ok (.iaload, 1) := by decide +kernel
theorem dX9_payOf_47 : decode cX9_payOf 47 = .ok (.imul, 1) := by decide +kernel
theorem dX9_payOf_48 : decode cX9_payOf 48 = .ok (.iconst 2, 1) := by decide +kernel
theorem dX9_payOf_49 : decode cX9_payOf 49 = .ok (.iadd, 1) := by decide +kernel
theorem dX9_payOf_50 : decode cX9_payOf 50 = .ok (.ireturn, 1) := by decide +kernel
theorem dX9_payOf_51 : decode cX9_payOf 51 = .ok (.iconst 5, 1) := by decide +kernel
theorem dX9_payOf_52 : decode cX9_payOf 52 = .ok (.ireturn, 1) := by decide +kernel
theorem dX9_payOf_53 : decode cX9_payOf 53 = .ok (.iconst 0, 1) := by decide +kernel
theorem dX9_payOf_54 : decode cX9_payOf 54 = .ok (.ireturn, 1) := by decide +kernel
theorem dX9_payOf_55 : decode cX9_payOf 55 = .ok (.iconst 2, 1) := by decide +kernel
theorem dX9_payOf_56 : decode cX9_payOf 56 = .ok (.aload_n 0, 1) := by decide +kernel
theorem dX9_payOf_57 : decode cX9_payOf 57 = .ok (.getfield 16, 3) := by decide +kernel
theorem dX9_payOf_60 : decode cX9_payOf 60 = .ok (.iload_n 1, 1) := by decide +kernel
theorem dX9_payOf_61 : decode cX9_payOf 61 = .ok (.iaload, 1) := by decide +kernel
theorem dX9_payOf_62 : decode cX9_payOf 62 = .ok (.imul, 1) := by decide +kernel
theorem dX9_payOf_63 : decode cX9_payOf 63 = .ok (.iconst 1, 1) := by decide +kernel
theorem dX9_payOf_64 : decode cX9_payOf 64 = .ok (.iadd, 1) := by decide +kernel
theorem dX9_payOf_65 : decode cX9_payOf 65 = .ok (.ireturn, 1) := by decide +kernel
theorem dX9_payOf_66 : decode cX9_payOf 66 = .ok (.iconst 2, 1) := by decide +kernel
theorem dX9_payOf_67 : decode cX9_payOf 67 = .ok (.ireturn, 1) := by decide +kernel
theorem dX9_payOf_68 : decode cX9_payOf 68 = .ok (.aload_n 0, 1) := by decide +kernel
theorem dX9_payOf_69 : decode cX9_payOf 69 = .ok (.getfield 16, 3) := by decide +kernel
theorem dX9_payOf_72 : decode cX9_payOf 72 = .ok (.iload_n 1, 1) := by decide +kernel
theorem dX9_payOf_73 : decode cX9_payOf 73 = .ok (.iaload, 1) := by decide +kernel
theorem dX9_payOf_74 : decode cX9_payOf 74 = .ok (.iconst 1, 1) := by decide +kernel
theorem dX9_payOf_75 : decode cX9_payOf 75 = .ok (.iadd, 1) := by decide +kernel
theorem dX9_payOf_76 : decode cX9_payOf 76 = .ok (.ireturn, 1) := by decide +kernel
theorem dX9_areThere_0 : decode cX9_areThere 0 = .ok (.aload_n 0, 1) := by decide +kernel
theorem dX9_areThere_1 : decode cX9_areThere 1 = .ok (.getfield 19, 3) := by decide +kernel
theorem dX9_areThere_4 : decode cX9_areThere 4 = .ok (.iload_n 1, 1) := by decide +kernel
theorem dX9_areThere_5 : decode cX9_areThere 5 = .ok (.iaload, 1) := by decide +kernel
theorem dX9_areThere_6 : decode cX9_areThere 6 = .ok (.iload_n 3, 1) := by decide +kernel
theorem dX9_areThere_7 : decode cX9_areThere 7 = .ok (.if_icmp .ne 39, 3) := by decide +kernel
theorem dX9_areThere_10 : decode cX9_areThere 10 = .ok (.aload_n 0, 1) := by decide +kernel
theorem dX9_areThere_11 : decode cX9_areThere 11 = .ok (.getfield 19, 3) := by decide +kernel
theorem dX9_areThere_14 : decode cX9_areThere 14 = .ok (.iload_n 2, 1) := by decide +kernel
theorem dX9_areThere_15 : decode cX9_areThere 15 = .ok (.iaload, 1) := by decide +kernel
theorem dX9_areThere_16 : decode cX9_areThere 16 = .ok (.iload_n 3, 1) := by decide +kernel
theorem dX9_areThere_17 : decode cX9_areThere 17 = .ok (.if_icmp .ne 29, 3) := by decide +kernel
theorem dX9_areThere_20 : decode cX9_areThere 20 = .ok (.aload_n 0, 1) := by decide +kernel
theorem dX9_areThere_21 : decode cX9_areThere 21 = .ok (.getfield 171, 3) := by decide +kernel
theorem dX9_areThere_24 : decode cX9_areThere 24 = .ok (.iload_n 1, 1) := by decide +kernel
theorem dX9_areThere_25 : decode cX9_areThere 25 = .ok (.invokestatic 174, 3) := by decide +kernel
theorem dX9_areThere_28 : decode cX9_areThere 28 = .ok (.ifCond .ne 18, 3) := by decide +kernel
theorem dX9_areThere_31 : decode cX9_areThere 31 = .ok (.aload_n 0, 1) := by decide +kernel
theorem dX9_areThere_32 : decode cX9_areThere 32 = .ok (.getfield 171, 3) := by decide +kernel
theorem dX9_areThere_35 : decode cX9_areThere 35 = .ok (.iload_n 2, 1) := by decide +kernel
theorem dX9_areThere_36 : decode cX9_areThere 36 = .ok (.invokestatic 174, 3) := by decide +kernel
theorem dX9_areThere_39 : decode cX9_areThere 39 = .ok (.ifCond .ne 7, 3) := by decide +kernel
theorem dX9_areThere_42 : decode cX9_areThere 42 = .ok (.iconst 1, 1) := by decide +kernel
theorem dX9_areThere_43 : decode cX9_areThere 43 = .ok (.goto 4, 3) := by decide +kernel
theorem dX9_areThere_46 : decode cX9_areThere 46 = .ok (.iconst 0, 1) := by decide +kernel
theorem dX9_areThere_47 : decode cX9_areThere 47 = .ok (.ireturn, 1) := by decide +kernel
theorem dX9_opensAt_0 : decode cX9_opensAt 0 = .ok (.bipush (-9), 2) := by decide +kernel
theorem dX9_opensAt_2 : decode cX9_opensAt 2 = .ok (.istore_n 3, 1) := by decide +kernel
theorem dX9_opensAt_3 : decode cX9_opensAt 3 = .ok (.bipush 100, 2) := by decide +kernel
theorem dX9_opensAt_5 : decode cX9_opensAt 5 = .ok (.istore 4, 2) := by decide +kernel
theorem dX9_opensAt_7 : decode cX9_opensAt 7 = .ok (.iconst 0, 1) := by decide +kernel
theorem dX9_opensAt_8 : decode cX9_opensAt 8 = .ok (.istore 5, 2) := by decide +kernel
theorem dX9_opensAt_10 : decode cX9_opensAt 10 = .ok (.iload 5, 2) := by decide +kernel
theorem dX9_opensAt_12 : decode cX9_opensAt 12 = .ok (.aload_n 0, 1) := by decide +kernel
theorem dX9_opensAt_13 : decode cX9_opensAt 13 = .ok (.getfield 65, 3) := by decide +kernel
theorem dX9_opensAt_16 : decode cX9_opensAt 16 = .ok (.if_icmp .ge 89, 3) := by decide +kernel
theorem dX9_opensAt_19 : decode cX9_opensAt 19 = .ok (.iload 5, 2) := by decide +kernel
theorem dX9_opensAt_21 : decode cX9_opensAt 21 = .ok (.iconst 1, 1) := by decide +kernel
theorem dX9_opensAt_22 : decode cX9_opensAt 22 = .ok (.iadd, 1) := by decide +kernel
theorem dX9_opensAt_23 : decode cX9_opensAt 23 = .ok (.istore 6, 2) := by decide +kernel
theorem dX9_opensAt_25 : decode cX9_opensAt 25 = .ok (.iload 6, 2) := by decide +kernel
theorem dX9_opensAt_27 : decode cX9_opensAt 27 = .ok (.aload_n 0, 1) := by decide +kernel
theorem dX9_opensAt_28 : decode cX9_opensAt 28 = .ok (.getfield 65, 3) := by decide +kernel
theorem dX9_opensAt_31 : decode cX9_opensAt 31 = .ok (.if_icmp .ge 68, 3) := by decide +kernel
theorem dX9_opensAt_34 : decode cX9_opensAt 34 = .ok (.aload_n 0, 1) := by decide +kernel
theorem dX9_opensAt_35 : decode cX9_opensAt 35 = .ok (.iload 5, 2) := by decide +kernel
theorem dX9_opensAt_37 : decode cX9_opensAt 37 = .ok (.iload 6, 2) := by decide +kernel
theorem dX9_opensAt_39 : decode cX9_opensAt 39 = .ok (.iload_n 1, 1) := by decide +kernel
theorem dX9_opensAt_40 : decode cX9_opensAt 40 = .ok (.invokevirtual 177, 3) := by decide +kernel
theorem dX9_opensAt_43 : decode cX9_opensAt 43 = .ok (.ifCond .eq 50, 3) := by decide +kernel
theorem dX9_opensAt_46 : decode cX9_opensAt 46 = .ok (.aload_n 0, 1) := by decide +kernel
theorem dX9_opensAt_47 : decode cX9_opensAt 47 = .ok (.iload 5, 2) := by decide +kernel
theorem dX9_opensAt_49 : decode cX9_opensAt 49 = .ok (.iload 6, 2) := by decide +kernel
theorem dX9_opensAt_51 : decode cX9_opensAt 51 = .ok (.invokevirtual 180, 3) := by decide +kernel
theorem dX9_opensAt_54 : decode cX9_opensAt 54 = .ok (.iload_n 2, 1) := by decide +kernel
theorem dX9_opensAt_55 : decode cX9_opensAt 55 = .ok (.if_icmp .lt 38, 3) := by decide +kernel
theorem dX9_opensAt_58 : decode cX9_opensAt 58 = .ok (.aload_n 0, 1) := by decide +kernel
theorem dX9_opensAt_59 : decode cX9_opensAt 59 = .ok (.iload 5, 2) := by decide +kernel
theorem dX9_opensAt_61 : decode cX9_opensAt 61 = .ok (.iload 6, 2) := by decide +kernel
theorem dX9_opensAt_63 : decode cX9_opensAt 63 = .ok (.invokevirtual 180, 3) := by decide +kernel
theorem dX9_opensAt_66 : decode cX9_opensAt 66 = .ok (.iload 4, 2) := by decide +kernel
theorem dX9_opensAt_68 : decode cX9_opensAt 68 = .ok (.if_icmp .lt 6, 3) := by decide +kernel
theorem dX9_opensAt_71 : decode cX9_opensAt 71 = .ok (.goto 22, 3) := by decide +kernel
theorem dX9_opensAt_74 : decode cX9_opensAt 74 = .ok (.bipush 10, 2) := by decide +kernel
theorem dX9_opensAt_76 : decode cX9_opensAt 76 = .ok (.iload 5, 2) := by decide +kernel
theorem dX9_opensAt_78 : decode cX9_opensAt 78 = .ok (.imul, 1) := by decide +kernel
theorem dX9_opensAt_79 : decode cX9_opensAt 79 = .ok (.iload 6, 2) := by decide +kernel
theorem dX9_opensAt_81 : decode cX9_opensAt 81 = .ok (.iadd, 1) := by decide +kernel
theorem dX9_opensAt_82 : decode cX9_opensAt 82 = .ok (.istore_n 3, 1) := by decide +kernel
theorem dX9_opensAt_83 : decode cX9_opensAt 83 = .ok (.aload_n 0, 1) := by decide +kernel
theorem dX9_opensAt_84 : decode cX9_opensAt 84 = .ok (.iload 5, 2) := by decide +kernel
theorem dX9_opensAt_86 : decode cX9_opensAt 86 = .ok (.iload 6, 2) := by decide +kernel
theorem dX9_opensAt_88 : decode cX9_opensAt 88 = .ok (.invokevirtual 180, 3) := by decide +kernel
theorem dX9_opensAt_91 : decode cX9_opensAt 91 = .ok (.istore 4, 2) := by decide +kernel
theorem dX9_opensAt_93 : decode cX9_opensAt 93 = .ok (.iinc 6 1, 3) := by decide +kernel
theorem dX9_opensAt_96 : decode cX9_opensAt 96 = .ok (.goto (-71), 3) := by decide +kernel
theorem dX9_opensAt_99 : decode cX9_opensAt 99 = .ok (.iinc 5 1, 3) := by decide +kernel
theorem dX9_opensAt_102 : decode cX9_opensAt 102 = .ok (.goto (-92), 3) := by decide +kernel
theorem dX9_opensAt_105 : decode cX9_opensAt 105 = .ok (.iload_n 3, 1) := by decide +kernel
theorem dX9_opensAt_106 : decode cX9_opensAt 106 = .ok (.ireturn, 1) := by decide +kernel
theorem dX9_fadesTwo_0 : decode cX9_fadesTwo 0 = .ok (.aload_n 0, 1) := by decide +kernel
theorem dX9_fadesTwo_1 : decode cX9_fadesTwo 1 = .ok (.getfield 171, 3) := by decide +kernel
theorem dX9_fadesTwo_4 : decode cX9_fadesTwo 4 = .ok (.iload_n 1, 1) := by decide +kernel
theorem dX9_fadesTwo_5 : decode cX9_fadesTwo 5 = .ok (.invokestatic 174, 3) := by decide +kernel
theorem dX9_fadesTwo_8 : decode cX9_fadesTwo 8 = .ok (.ifCond .ne 14, 3) := by decide +kernel
theorem dX9_fadesTwo_11 : decode cX9_fadesTwo 11 = .ok (.aload_n 0, 1) := by decide +kernel
theorem dX9_fadesTwo_12 : decode cX9_fadesTwo 12 = .ok (.getfield 171, 3) := by decide +kernel
theorem dX9_fadesTwo_15 : decode cX9_fadesTwo 15 = .ok (.iload_n 2, 1) := by decide +kernel
theorem dX9_fadesTwo_16 : decode cX9_fadesTwo 16 = .ok (.invokestatic 174, 3) := by decide +kernel
theorem dX9_fadesTwo_19 : decode cX9_fadesTwo 19 = .ok (.ifCond .eq 4, 3) := by decide +kernel
theorem dX9_fadesTwo_22 : decode cX9_fadesTwo 22 = .ok (.return_, 1) := by decide +kernel
theorem dX9_fadesTwo_23 : decode cX9_fadesTwo 23 = .ok (.aload_n 0, 1) := by decide +kernel
theorem dX9_fadesTwo_24 : decode cX9_fadesTwo 24 = .ok (.iload_n 1, 1) := by decide +kernel
theorem dX9_fadesTwo_25 : decode cX9_fadesTwo 25 = .ok (.iload_n 2, 1) := by decide +kernel
theorem dX9_fadesTwo_26 : decode cX9_fadesTwo 26 = .ok (.invokevirtual 180, 3) := by decide +kernel
theorem dX9_fadesTwo_29 : decode cX9_fadesTwo 29 = .ok (.istore_n 3, 1) := by decide +kernel
theorem dX9_fadesTwo_30 : decode cX9_fadesTwo 30 = .ok (.aload_n 0, 1) := by decide +kernel
theorem dX9_fadesTwo_31 : decode cX9_fadesTwo 31 = .ok (.iload_n 1, 1) := by decide +kernel
theorem dX9_fadesTwo_32 : decode cX9_fadesTwo 32 = .ok (.iload_n 2, 1) := by decide +kernel
theorem dX9_fadesTwo_33 : decode cX9_fadesTwo 33 = .ok (.aload_n 0, 1) := by decide +kernel
theorem dX9_fadesTwo_34 : decode cX9_fadesTwo 34 = .ok (.getfield 19, 3) := by decide +kernel
theorem dX9_fadesTwo_37 : decode cX9_fadesTwo 37 = .ok (.iload_n 1, 1) := by decide +kernel
theorem dX9_fadesTwo_38 : decode cX9_fadesTwo 38 = .ok (.iaload, 1) := by decide +kernel
theorem dX9_fadesTwo_39 : decode cX9_fadesTwo 39 = .ok (.aload_n 0, 1) := by decide +kernel
theorem dX9_fadesTwo_40 : decode cX9_fadesTwo 40 = .ok (.getfield 19, 3) := by decide +kernel
theorem dX9_fadesTwo_43 : decode cX9_fadesTwo 43 = .ok (.iload_n 2, 1) := by decide +kernel
theorem dX9_fadesTwo_44 : decode cX9_fadesTwo 44 = .ok (.iaload, 1) := by decide +kernel
theorem dX9_fadesTwo_45 : decode cX9_fadesTwo 45 = .ok (.if_icmp .ne 25, 3) := by decide +kernel
theorem dX9_fadesTwo_48 : decode cX9_fadesTwo 48 = .ok (.iload_n 3, 1) := by decide +kernel
theorem dX9_fadesTwo_49 : decode cX9_fadesTwo 49 = .ok (.aload_n 0, 1) := by decide +kernel
theorem dX9_fadesTwo_50 : decode cX9_fadesTwo 50 = .ok (.iload_n 1, 1) := by decide +kernel
theorem dX9_fadesTwo_51 : decode cX9_fadesTwo 51 = .ok (.invokevirtual 184, 3) := by decide +kernel
theorem dX9_fadesTwo_54 : decode cX9_fadesTwo 54 = .ok (.isub, 1) := by decide +kernel
theorem dX9_fadesTwo_55 : decode cX9_fadesTwo 55 = .ok (.aload_n 0, 1) := by decide +kernel
theorem dX9_fadesTwo_56 : decode cX9_fadesTwo 56 = .ok (.iload_n 2, 1) := by decide +kernel
theorem dX9_fadesTwo_57 : decode cX9_fadesTwo 57 = .ok (.invokevirtual 184, 3) := by decide +kernel
theorem dX9_fadesTwo_60 : decode cX9_fadesTwo 60 = .ok (.isub, 1) := by decide +kernel
theorem dX9_fadesTwo_61 : decode cX9_fadesTwo 61 = .ok (.iconst 0, 1) := by decide +kernel
theorem dX9_fadesTwo_62 : decode cX9_fadesTwo 62 = .ok (.bipush 99, 2) := by decide +kernel
theorem dX9_fadesTwo_64 : decode cX9_fadesTwo 64 = .ok (.invokestatic 187, 3) := by decide +kernel
theorem dX9_fadesTwo_67 : decode cX9_fadesTwo 67 = .ok (.goto 22, 3) := by decide +kernel
theorem dX9_fadesTwo_70 : decode cX9_fadesTwo 70 = .ok (.iload_n 3, 1) := by decide +kernel
theorem dX9_fadesTwo_71 : decode cX9_fadesTwo 71 = .ok (.aload_n 0, 1) := by decide +kernel
theorem dX9_fadesTwo_72 : decode cX9_fadesTwo 72 = .ok (.iload_n 1, 1) := by decide +kernel
theorem dX9_fadesTwo_73 : decode cX9_fadesTwo 73 = .ok (.invokevirtual 190, 3) := by decide +kernel
theorem dX9_fadesTwo_76 : decode cX9_fadesTwo 76 = .ok (.iadd, 1) := by decide +kernel
theorem dX9_fadesTwo_77 : decode cX9_fadesTwo 77 = .ok (.aload_n 0, 1) := by decide +kernel
theorem dX9_fadesTwo_78 : decode cX9_fadesTwo 78 = .ok (.iload_n 2, 1) := by decide +kernel
theorem dX9_fadesTwo_79 : decode cX9_fadesTwo 79 = .ok (.invokevirtual 190, 3) := by decide +kernel
theorem dX9_fadesTwo_82 : decode cX9_fadesTwo 82 = .ok (.iadd, 1) := by decide +kernel
theorem dX9_fadesTwo_83 : decode cX9_fadesTwo 83 = .ok (.iconst 0, 1) := by decide +kernel
theorem dX9_fadesTwo_84 : decode cX9_fadesTwo 84 = .ok (.bipush 99, 2) := by decide +kernel
theorem dX9_fadesTwo_86 : decode cX9_fadesTwo 86 = .ok (.invokestatic 187, 3) := by decide +kernel
theorem dX9_fadesTwo_89 : decode cX9_fadesTwo 89 = .ok (.invokevirtual 128, 3) := by decide +kernel
theorem dX9_fadesTwo_92 : decode cX9_fadesTwo 92 = .ok (.return_, 1) := by decide +kernel
theorem dX9_goesWeek_0 : decode cX9_goesWeek 0 = .ok (.aload_n 0, 1) := by decide +kernel
theorem dX9_goesWeek_1 : decode cX9_goesWeek 1 = .ok (.dup, 1) := by decide +kernel
theorem dX9_goesWeek_2 : decode cX9_goesWeek 2 = .ok (.getfield 115, 3) := by decide +kernel
theorem dX9_goesWeek_5 : decode cX9_goesWeek 5 = .ok (.iconst 1, 1) := by decide +kernel
theorem dX9_goesWeek_6 : decode cX9_goesWeek 6 = .ok (.iadd, 1) := by decide +kernel
theorem dX9_goesWeek_7 : decode cX9_goesWeek 7 = .ok (.putfield 115, 3) := by decide +kernel
theorem dX9_goesWeek_10 : decode cX9_goesWeek 10 = .ok (.aload_n 0, 1) := by decide +kernel
theorem dX9_goesWeek_11 : decode cX9_goesWeek 11 = .ok (.iconst 0, 1) := by decide +kernel
theorem dX9_goesWeek_12 : decode cX9_goesWeek 12 = .ok (.putfield 193, 3) := by decide +kernel
theorem dX9_goesWeek_15 : decode cX9_goesWeek 15 = .ok (.iconst 0, 1) := by decide +kernel
theorem dX9_goesWeek_16 : decode cX9_goesWeek 16 = .ok (.istore_n 1, 1) := by decide +kernel
theorem dX9_goesWeek_17 : decode cX9_goesWeek 17 = .ok (.iload_n 1, 1) := by decide +kernel
theorem dX9_goesWeek_18 : decode cX9_goesWeek 18 = .ok (.aload_n 0, 1) := by decide +kernel
theorem dX9_goesWeek_19 : decode cX9_goesWeek 19 = .ok (.getfield 65, 3) := by decide +kernel
theorem dX9_goesWeek_22 : decode cX9_goesWeek 22 = .ok (.if_icmp .ge 33, 3) := by decide +kernel
theorem dX9_goesWeek_25 : decode cX9_goesWeek 25 = .ok (.iload_n 1, 1) := by decide +kernel
theorem dX9_goesWeek_26 : decode cX9_goesWeek 26 = .ok (.iconst 1, 1) := by decide +kernel
theorem dX9_goesWeek_27 : decode cX9_goesWeek 27 = .ok (.iadd, 1) := by decide +kernel
theorem dX9_goesWeek_28 : decode cX9_goesWeek 28 = .ok (.istore_n 2, 1) := by decide +kernel
theorem dX9_goesWeek_29 : decode cX9_goesWeek 29 = .ok (.iload_n 2, 1) := by decide +kernel
theorem dX9_goesWeek_30 : decode cX9_goesWeek 30 = .ok (.aload_n 0, 1) := by decide +kernel
theorem dX9_goesWeek_31 : decode cX9_goesWeek 31 = .ok (.getfield 65, 3) := by decide +kernel
theorem dX9_goesWeek_34 : decode cX9_goesWeek 34 = .ok (.if_icmp .ge 15, 3) := by decide +kernel
theorem dX9_goesWeek_37 : decode cX9_goesWeek 37 = .ok (.aload_n 0, 1) := by decide +kernel
theorem dX9_goesWeek_38 : decode cX9_goesWeek 38 = .ok (.iload_n 1, 1) := by decide +kernel
theorem dX9_goesWeek_39 : decode cX9_goesWeek 39 = .ok (.iload_n 2, 1) := by decide +kernel
theorem dX9_goesWeek_40 : decode cX9_goesWeek 40 = .ok (.invokevirtual 196, 3) := by decide +kernel
theorem dX9_goesWeek_43 : decode cX9_goesWeek 43 = .ok (.iinc 2 1, 3) := by decide +kernel
theorem dX9_goesWeek_46 : decode cX9_goesWeek 46 = .ok (.goto (-17), 3) := by decide +kernel
theorem dX9_goesWeek_49 : decode cX9_goesWeek 49 = .ok (.iinc 1 1, 3) := by decide +kernel
theorem dX9_goesWeek_52 : decode cX9_goesWeek 52 = .ok (.goto (-35), 3) := by decide +kernel
theorem dX9_goesWeek_55 : decode cX9_goesWeek 55 = .ok (.iconst 0, 1) := by decide +kernel
theorem dX9_goesWeek_56 : decode cX9_goesWeek 56 = .ok (.istore_n 1, 1) := by decide +kernel
theorem dX9_goesWeek_57 : decode cX9_goesWeek 57 = .ok (.iload_n 1, 1) := by decide +kernel
theorem dX9_goesWeek_58 : decode cX9_goesWeek 58 = .ok (.aload_n 0, 1) := by decide +kernel
theorem dX9_goesWeek_59 : decode cX9_goesWeek 59 = .ok (.getfield 58, 3) := by decide +kernel
theorem dX9_goesWeek_62 : decode cX9_goesWeek 62 = .ok (.if_icmp .ge 115, 3) := by decide +kernel
theorem dX9_goesWeek_65 : decode cX9_goesWeek 65 = .ok (.aload_n 0, 1) := by decide +kernel
theorem dX9_goesWeek_66 : decode cX9_goesWeek 66 = .ok (.getfield 49, 3) := by decide +kernel
theorem dX9_goesWeek_69 : decode cX9_goesWeek 69 = .ok (.iload_n 1, 1) := by decide +kernel
theorem dX9_goesWeek_70 : decode cX9_goesWeek 70 = .ok (.aload_n 0, 1) := by decide +kernel
theorem dX9_goesWeek_71 : decode cX9_goesWeek 71 = .ok (.getfield 31, 3) := by decide +kernel
theorem dX9_goesWeek_74 : decode cX9_goesWeek 74 = .ok (.iload_n 1, 1) := by decide +kernel
theorem dX9_goesWeek_75 : decode cX9_goesWeek 75 = .ok (.iaload, 1) := by decide +kernel
theorem dX9_goesWeek_76 : decode cX9_goesWeek 76 = .ok (.iconst 1, 1) := by decide +kernel
theorem dX9_goesWeek_77 : decode cX9_goesWeek 77 = .ok (.if_icmp .ne 8, 3) := by decide +kernel
theorem dX9_goesWeek_80 : decode cX9_goesWeek 80 = .ok (.bipush (-9), 2) := by decide +kernel
theorem dX9_goesWeek_82 : decode cX9_goesWeek 82 = .ok (.goto 19, 3) := by decide +kernel
theorem dX9_goesWeek_85 : decode cX9_goesWeek 85 = .ok (.aload_n 0, 1) := by decide +kernel
theorem dX9_goesWeek_86 : decode cX9_goesWeek 86 = .ok (.aload_n 0, 1) := by decide +kernel
theorem dX9_goesWeek_87 : decode cX9_goesWeek 87 = .ok (.getfield 28, 3) := by decide +kernel
theorem dX9_goesWeek_90 : decode cX9_goesWeek 90 = .ok (.iload_n 1, 1) := by decide +kernel
theorem dX9_goesWeek_91 : decode cX9_goesWeek 91 = .ok (.iaload, 1) := by decide +kernel
theorem dX9_goesWeek_92 : decode cX9_goesWeek 92 = .ok (.aload_n 0, 1) := by decide +kernel
theorem dX9_goesWeek_93 : decode cX9_goesWeek 93 = .ok (.getfield 25, 3) := by decide +kernel
theorem dX9_goesWeek_96 : decode cX9_goesWeek 96 = .ok (.iload_n 1, 1) := by decide +kernel
theorem dX9_goesWeek_97 : decode cX9_goesWeek 97 = .ok (.iaload, 1) := by decide +kernel
theorem dX9_goesWeek_98 : decode cX9_goesWeek 98 = .ok (.invokevirtual 199, 3) := by decide +kernel
theorem dX9_goesWeek_101 : decode cX9_goesWeek 101 = .ok (.iastore, 1) := by decide +kernel
theorem dX9_goesWeek_102 : decode cX9_goesWeek 102 = .ok (.aload_n 0, 1) := by decide +kernel
theorem dX9_goesWeek_103 : decode cX9_goesWeek 103 = .ok (.getfield 49, 3) := by decide +kernel
theorem dX9_goesWeek_106 : decode cX9_goesWeek 106 = .ok (.iload_n 1, 1) := by decide +kernel
theorem dX9_goesWeek_107 : decode cX9_goesWeek 107 = .ok (.iaload, 1) := by decide +kernel
theorem dX9_goesWeek_108 : decode cX9_goesWeek 108 = .ok (.ifCond .ge 6, 3) := by decide +kernel
theorem dX9_goesWeek_111 : decode cX9_goesWeek 111 = .ok (.goto 60, 3) := by decide +kernel
theorem dX9_goesWeek_114 : decode cX9_goesWeek 114 = .ok (.aload_n 0, 1) := by decide +kernel
theorem dX9_goesWeek_115 : decode cX9_goesWeek 115 = .ok (.getfield 49, 3) := by decide +kernel
theorem dX9_goesWeek_118 : decode cX9_goesWeek 118 = .ok (.iload_n 1, 1) := by decide +kernel
theorem dX9_goesWeek_119 : decode cX9_goesWeek 119 = .ok (.iaload, 1) := by decide +kernel
theorem dX9_goesWeek_120 : decode cX9_goesWeek 120 = .ok (.bipush 10, 2) := by decide +kernel
theorem dX9_goesWeek_122 : decode cX9_goesWeek 122 = .ok (.idiv, 1) := by decide +kernel
theorem dX9_goesWeek_123 : decode cX9_goesWeek 123 = .ok (.istore_n 2, 1) := by decide +kernel
theorem dX9_goesWeek_124 : decode cX9_goesWeek 124 = .ok (.aload_n 0, 1) := by decide +kernel
theorem dX9_goesWeek_125 : decode cX9_goesWeek 125 = .ok (.getfield 49, 3) := by decide +kernel
theorem dX9_goesWeek_128 : decode cX9_goesWeek 128 = .ok (.iload_n 1, 1) := by decide +kernel
theorem dX9_goesWeek_129 : decode cX9_goesWeek 129 = .ok (.iaload, 1) := by decide +kernel
theorem dX9_goesWeek_130 : decode cX9_goesWeek 130 = .ok (.bipush 10, 2) := by decide +kernel
theorem dX9_goesWeek_132 : decode cX9_goesWeek 132 = .ok (.irem, 1) := by decide +kernel
theorem dX9_goesWeek_133 : decode cX9_goesWeek 133 = .ok (.istore_n 3, 1) := by decide +kernel
theorem dX9_goesWeek_134 : decode cX9_goesWeek 134 = .ok (.aload_n 0, 1) := by decide +kernel
theorem dX9_goesWeek_135 : decode cX9_goesWeek 135 = .ok (.getfield 31, 3) := by decide +kernel
theorem dX9_goesWeek_138 : decode cX9_goesWeek 138 = .ok (.iload_n 1, 1) := by decide +kernel
theorem dX9_goesWeek_139 : decode cX9_goesWeek 139 = .ok (.iconst 1, 1) := by decide +kernel
theorem dX9_goesWeek_140 : decode cX9_goesWeek 140 = .ok (.iastore, 1) := by decide +kernel
theorem dX9_goesWeek_141 : decode cX9_goesWeek 141 = .ok (.aload_n 0, 1) := by decide +kernel
theorem dX9_goesWeek_142 : decode cX9_goesWeek 142 = .ok (.dup, 1) := by decide +kernel
theorem dX9_goesWeek_143 : decode cX9_goesWeek 143 = .ok (.getfield 193, 3) := by decide +kernel
theorem dX9_goesWeek_146 : decode cX9_goesWeek 146 = .ok (.iconst 1, 1) := by decide +kernel
theorem dX9_goesWeek_147 : decode cX9_goesWeek 147 = .ok (.iadd, 1) := by decide +kernel
theorem dX9_goesWeek_148 : decode cX9_goesWeek 148 = .ok (.putfield 193, 3) := by decide +kernel
theorem dX9_goesWeek_151 : decode cX9_goesWeek 151 = .ok (.aload_n 0, 1) := by decide +kernel
theorem dX9_goesWeek_152 : decode cX9_goesWeek 152 = .ok (.iload_n 2, 1) := by decide +kernel
theorem dX9_goesWeek_153 : decode cX9_goesWeek 153 = .ok (.iload_n 3, 1) := by decide +kernel
theorem dX9_goesWeek_154 : decode cX9_goesWeek 154 = .ok (.aload_n 0, 1) := by decide +kernel
theorem dX9_goesWeek_155 : decode cX9_goesWeek 155 = .ok (.iload_n 2, 1) := by decide +kernel
theorem dX9_goesWeek_156 : decode cX9_goesWeek 156 = .ok (.iload_n 3, 1) := by decide +kernel
theorem dX9_goesWeek_157 : decode cX9_goesWeek 157 = .ok (.invokevirtual 180, 3) := by decide +kernel
theorem dX9_goesWeek_160 : decode cX9_goesWeek 160 = .ok (.iconst 5, 1) := by decide +kernel
theorem dX9_goesWeek_161 : decode cX9_goesWeek 161 = .ok (.isub, 1) := by decide +kernel
theorem dX9_goesWeek_162 : decode cX9_goesWeek 162 = .ok (.iconst 0, 1) := by decide +kernel
theorem dX9_goesWeek_163 : decode cX9_goesWeek 163 = .ok (.bipush 99, 2) := by decide +kernel
theorem dX9_goesWeek_165 : decode cX9_goesWeek 165 = .ok (.invokestatic 187, 3) := by decide +kernel
theorem dX9_goesWeek_168 : decode cX9_goesWeek 168 = .ok (.invokevirtual 128, 3) := by decide +kernel
theorem dX9_goesWeek_171 : decode cX9_goesWeek 171 = .ok (.iinc 1 1, 3) := by decide +kernel
theorem dX9_goesWeek_174 : decode cX9_goesWeek 174 = .ok (.goto (-117), 3) := by decide +kernel
theorem dX9_goesWeek_177 : decode cX9_goesWeek 177 = .ok (.return_, 1) := by decide +kernel
theorem dX9_goesOn_0 : decode cX9_goesOn 0 = .ok (.iconst 0, 1) := by decide +kernel
theorem dX9_goesOn_1 : decode cX9_goesOn 1 = .ok (.istore_n 2, 1) := by decide +kernel
theorem dX9_goesOn_2 : decode cX9_goesOn 2 = .ok (.iload_n 2, 1) := by decide +kernel
theorem dX9_goesOn_3 : decode cX9_goesOn 3 = .ok (.iload_n 1, 1) := by decide +kernel
theorem dX9_goesOn_4 : decode cX9_goesOn 4 = .ok (.if_icmp .ge 13, 3) := by decide +kernel
theorem dX9_goesOn_7 : decode cX9_goesOn 7 = .ok (.aload_n 0, 1) := by decide +kernel
theorem dX9_goesOn_8 : decode cX9_goesOn 8 = .ok (.invokevirtual 202, 3) := by decide +kernel
theorem dX9_goesOn_11 : decode cX9_goesOn 11 = .ok (.iinc 2 1, 3) := by decide +kernel
theorem dX9_goesOn_14 : decode cX9_goesOn 14 = .ok (.goto (-12), 3) := by decide +kernel
theorem dX9_goesOn_17 : decode cX9_goesOn 17 = .ok (.return_, 1) := by decide +kernel
theorem dX9_openOnes_0 : decode cX9_openOnes 0 = .ok (.iconst 0, 1) := by decide +kernel
theorem dX9_openOnes_1 : decode cX9_openOnes 1 = .ok (.istore_n 1, 1) := by decide +kernel
theorem dX9_openOnes_2 : decode cX9_openOnes 2 = .ok (.iconst 0, 1) := by decide +kernel
theorem dX9_openOnes_3 : decode cX9_openOnes 3 = .ok (.istore_n 2, 1) := by decide +kernel
theorem dX9_openOnes_4 : decode cX9_openOnes 4 = .ok (.iload_n 2, 1) := by decide +kernel
theorem dX9_openOnes_5 : decode cX9_openOnes 5 = .ok (.aload_n 0, 1) := by decide +kernel
theorem dX9_openOnes_6 : decode cX9_openOnes 6 = .ok (.getfield 58, 3) := by decide +kernel
theorem dX9_openOnes_9 : decode cX9_openOnes 9 = .ok (.if_icmp .ge 20, 3) := by decide +kernel
theorem dX9_openOnes_12 : decode cX9_openOnes 12 = .ok (.iload_n 1, 1) := by decide +kernel
theorem dX9_openOnes_13 : decode cX9_openOnes 13 = .ok (.aload_n 0, 1) := by decide +kernel
theorem dX9_openOnes_14 : decode cX9_openOnes 14 = .ok (.getfield 31, 3) := by decide +kernel
theorem dX9_openOnes_17 : decode cX9_openOnes 17 = .ok (.iload_n 2, 1) := by decide +kernel
theorem dX9_openOnes_18 : decode cX9_openOnes 18 = .ok (.iaload, 1) := by decide +kernel
theorem dX9_openOnes_19 : decode cX9_openOnes 19 = .ok (.iload_n 2, 1) := by decide +kernel
theorem dX9_openOnes_20 : decode cX9_openOnes 20 = .ok (.ishl, 1) := by decide +kernel
theorem dX9_openOnes_21 : decode cX9_openOnes 21 = .ok (.ior, 1) := by decide +kernel
theorem dX9_openOnes_22 : decode cX9_openOnes 22 = .ok (.istore_n 1, 1) := by decide +kernel
theorem dX9_openOnes_23 : decode cX9_openOnes 23 = .ok (.iinc 2 1, 3) := by decide +kernel
theorem dX9_openOnes_26 : decode cX9_openOnes 26 = .ok (.goto (-22), 3) := by decide +kernel
theorem dX9_openOnes_29 : decode cX9_openOnes 29 = .ok (.iload_n 1, 1) := by decide +kernel
theorem dX9_openOnes_30 : decode cX9_openOnes 30 = .ok (.ireturn, 1) := by decide +kernel
theorem dX9_allHate_0 : decode cX9_allHate 0 = .ok (.iconst 0, 1) := by decide +kernel
theorem dX9_allHate_1 : decode cX9_allHate 1 = .ok (.istore_n 1, 1) := by decide +kernel
theorem dX9_allHate_2 : decode cX9_allHate 2 = .ok (.iconst 0, 1) := by decide +kernel
theorem dX9_allHate_3 : decode cX9_allHate 3 = .ok (.istore_n 2, 1) := by decide +kernel
theorem dX9_allHate_4 : decode cX9_allHate 4 = .ok (.iload_n 2, 1) := by decide +kernel
theorem dX9_allHate_5 : decode cX9_allHate 5 = .ok (.aload_n 0, 1) := by decide +kernel
theorem dX9_allHate_6 : decode cX9_allHate 6 = .ok (.getfield 65, 3) := by decide +kernel
theorem dX9_allHate_9 : decode cX9_allHate 9 = .ok (.if_icmp .ge 36, 3) := by decide +kernel
theorem dX9_allHate_12 : decode cX9_allHate 12 = .ok (.iload_n 2, 1) := by decide +kernel
theorem dX9_allHate_13 : decode cX9_allHate 13 = .ok (.iconst 1, 1) := by decide +kernel
theorem dX9_allHate_14 : decode cX9_allHate 14 = .ok (.iadd, 1) := by decide +kernel
theorem dX9_allHate_15 : decode cX9_allHate 15 = .ok (.istore_n 3, 1) := by decide +kernel
theorem dX9_allHate_16 : decode cX9_allHate 16 = .ok (.iload_n 3, 1) := by decide +kernel
theorem dX9_allHate_17 : decode cX9_allHate 17 = .ok (.aload_n 0, 1) := by decide +kernel
theorem dX9_allHate_18 : decode cX9_allHate 18 = .ok (.getfield 65, 3) := by decide +kernel
theorem dX9_allHate_21 : decode cX9_allHate 21 = .ok (.if_icmp .ge 18, 3) := by decide +kernel
theorem dX9_allHate_24 : decode cX9_allHate 24 = .ok (.iload_n 1, 1) := by decide +kernel
theorem dX9_allHate_25 : decode cX9_allHate 25 = .ok (.aload_n 0, 1) := by decide +kernel
theorem dX9_allHate_26 : decode cX9_allHate 26 = .ok (.iload_n 2, 1) := by decide +kernel
theorem dX9_allHate_27 : decode cX9_allHate 27 = .ok (.iload_n 3, 1) := by decide +kernel
theorem dX9_allHate_28 : decode cX9_allHate 28 = .ok (.invokevirtual 180, 3) := by decide +kernel
theorem dX9_allHate_31 : decode cX9_allHate 31 = .ok (.iadd, 1) := by decide +kernel
theorem dX9_allHate_32 : decode cX9_allHate 32 = .ok (.istore_n 1, 1) := by decide +kernel
theorem dX9_allHate_33 : decode cX9_allHate 33 = .ok (.iinc 3 1, 3) := by decide +kernel
theorem dX9_allHate_36 : decode cX9_allHate 36 = .ok (.goto (-20), 3) := by decide +kernel
theorem dX9_allHate_39 : decode cX9_allHate 39 = .ok (.iinc 2 1, 3) := by decide +kernel
theorem dX9_allHate_42 : decode cX9_allHate 42 = .ok (.goto (-38), 3) := by decide +kernel
theorem dX9_allHate_45 : decode cX9_allHate 45 = .ok (.iload_n 1, 1) := by decide +kernel
theorem dX9_allHate_46 : decode cX9_allHate 46 = .ok (.ireturn, 1) := by decide +kernel
theorem dX9_keeperOf_0 : decode cX9_keeperOf 0 = .ok (.aload_n 0, 1) := by decide +kernel
theorem dX9_keeperOf_1 : decode cX9_keeperOf 1 = .ok (.iload_n 1, 1) := by decide +kernel
theorem dX9_keeperOf_2 : decode cX9_keeperOf 2 = .ok (.invokevirtual 68, 3) := by decide +kernel
theorem dX9_keeperOf_5 : decode cX9_keeperOf 5 = .ok (.ifCond .ne 9, 3) := by decide +kernel
theorem dX9_keeperOf_8 : decode cX9_keeperOf 8 = .ok (.aload_n 0, 1) := by decide +kernel
theorem dX9_keeperOf_9 : decode cX9_keeperOf 9 = .ok (.iconst (-1), 1) := by decide +kernel
theorem dX9_keeperOf_10 : decode cX9_keeperOf 10 = .ok (.invokevirtual 79, 3) := by decide +kernel
theorem dX9_keeperOf_13 : decode cX9_keeperOf 13 = .ok (.ireturn, 1) := by decide +kernel
theorem dX9_keeperOf_14 : decode cX9_keeperOf 14 = .ok (.iload_n 2, 1) := by decide +kernel
theorem dX9_keeperOf_15 : decode cX9_keeperOf 15 = .ok (.tableswitch 76 0 5 #[37, 44, 51, 58, 64, 70], 37) := by decide +kernel
theorem dX9_keeperOf_52 : decode cX9_keeperOf 52 = .ok (.aload_n 0, 1) := by decide +kernel
theorem dX9_keeperOf_53 : decode cX9_keeperOf 53 = .ok (.getfield 13, 3) := by decide +kernel
theorem dX9_keeperOf_56 : decode cX9_keeperOf 56 = .ok (.iload_n 1, 1) := by decide +kernel
theorem dX9_keeperOf_57 : decode cX9_keeperOf 57 = .ok (.iaload, 1) := by decide +kernel
theorem dX9_keeperOf_58 : decode cX9_keeperOf 58 = .ok (.ireturn, 1) := by decide +kernel
theorem dX9_keeperOf_59 : decode cX9_keeperOf 59 = .ok (.aload_n 0, 1) := by decide +kernel
theorem dX9_keeperOf_60 : decode cX9_keeperOf 60 = .ok (.getfield 16, 3) := by decide +kernel
theorem dX9_keeperOf_63 : decode cX9_keeperOf 63 = .ok (.iload_n 1, 1) := by decide +kernel
theorem dX9_keeperOf_64 : decode cX9_keeperOf 64 = .ok (.iaload, 1) := by decide +kernel
theorem dX9_keeperOf_65 : decode cX9_keeperOf 65 = .ok (.ireturn, 1) := by decide +kernel
theorem dX9_keeperOf_66 : decode cX9_keeperOf 66 = .ok (.aload_n 0, 1) := by decide +kernel
theorem dX9_keeperOf_67 : decode cX9_keeperOf 67 = .ok (.getfield 19, 3) := by decide +kernel
theorem dX9_keeperOf_70 : decode cX9_keeperOf 70 = .ok (.iload_n 1, 1) := by decide +kernel
theorem dX9_keeperOf_71 : decode cX9_keeperOf 71 = .ok (.iaload, 1) := by decide +kernel
theorem dX9_keeperOf_72 : decode cX9_keeperOf 72 = .ok (.ireturn, 1) := by decide +kernel
theorem dX9_keeperOf_73 : decode cX9_keeperOf 73 = .ok (.aload_n 0, 1) := by decide +kernel
theorem dX9_keeperOf_74 : decode cX9_keeperOf 74 = .ok (.iload_n 1, 1) := by decide +kernel
theorem dX9_keeperOf_75 : decode cX9_keeperOf 75 = .ok (.invokevirtual 184, 3) := by decide +kernel
theorem dX9_keeperOf_78 : decode cX9_keeperOf 78 = .ok (.ireturn, 1) := by decide +kernel
theorem dX9_keeperOf_79 : decode cX9_keeperOf 79 = .ok (.aload_n 0, 1) := by decide +kernel
theorem dX9_keeperOf_80 : decode cX9_keeperOf 80 = .ok (.iload_n 1, 1) := by decide +kernel
theorem dX9_keeperOf_81 : decode cX9_keeperOf 81 = .ok (.invokevirtual 190, 3) := by decide +kernel
theorem dX9_keeperOf_84 : decode cX9_keeperOf 84 = .ok (.ireturn, 1) := by decide +kernel
theorem dX9_keeperOf_85 : decode cX9_keeperOf 85 = .ok (.aload_n 0, 1) := by decide +kernel
theorem dX9_keeperOf_86 : decode cX9_keeperOf 86 = .ok (.iload_n 1, 1) := by decide +kernel
theorem dX9_keeperOf_87 : decode cX9_keeperOf 87 = .ok (.invokevirtual 205, 3) := by decide +kernel
theorem dX9_keeperOf_90 : decode cX9_keeperOf 90 = .ok (.ireturn, 1) := by decide +kernel
theorem dX9_keeperOf_91 : decode cX9_keeperOf 91 = .ok (.aload_n 0, 1) := by decide +kernel
theorem dX9_keeperOf_92 : decode cX9_keeperOf 92 = .ok (.bipush (-2), 2) := by decide +kernel
theorem dX9_keeperOf_94 : decode cX9_keeperOf 94 = .ok (.invokevirtual 79, 3) := by decide +kernel
theorem dX9_keeperOf_97 : decode cX9_keeperOf 97 = .ok (.ireturn, 1) := by decide +kernel
theorem dX9_letterOf_0 : decode cX9_letterOf 0 = .ok (.aload_n 0, 1) := by decide +kernel
theorem dX9_letterOf_1 : decode cX9_letterOf 1 = .ok (.iload_n 1, 1) := by decide +kernel
theorem dX9_letterOf_2 : decode cX9_letterOf 2 = .ok (.invokevirtual 134, 3) := by decide +kernel
theorem dX9_letterOf_5 : decode cX9_letterOf 5 = .ok (.ifCond .ne 9, 3) := by decide +kernel
theorem dX9_letterOf_8 : decode cX9_letterOf 8 = .ok (.aload_n 0, 1) := by decide +kernel
theorem dX9_letterOf_9 : decode cX9_letterOf 9 = .ok (.iconst (-1), 1) := by decide +kernel
theorem dX9_letterOf_10 : decode cX9_letterOf 10 = .ok (.invokevirtual 79, 3) := by decide +kernel
theorem dX9_letterOf_13 : decode cX9_letterOf 13 = .ok (.ireturn, 1) := by decide +kernel
theorem dX9_letterOf_14 : decode cX9_letterOf 14 = .ok (.iload_n 2, 1) := by decide +kernel
theorem dX9_letterOf_15 : decode cX9_letterOf 15 = .ok (.tableswitch 67 0 3 #[29, 36, 43, 50], 29) := by decide +kernel
theorem dX9_letterOf_44 : decode cX9_letterOf 44 = .ok (.aload_n 0, 1) := by decide +kernel
theorem dX9_letterOf_45 : decode cX9_letterOf 45 = .ok (.getfield 25, 3) := by decide +kernel
theorem dX9_letterOf_48 : decode cX9_letterOf 48 = .ok (.iload_n 1, 1) := by decide +kernel
theorem dX9_letterOf_49 : decode cX9_letterOf 49 = .ok (.iaload, 1) := by decide +kernel
theorem dX9_letterOf_50 : decode cX9_letterOf 50 = .ok (.ireturn, 1) := by decide +kernel
theorem dX9_letterOf_51 : decode cX9_letterOf 51 = .ok (.aload_n 0, 1) := by decide +kernel
theorem dX9_letterOf_52 : decode cX9_letterOf 52 = .ok (.getfield 28, 3) := by decide +kernel
theorem dX9_letterOf_55 : decode cX9_letterOf 55 = .ok (.iload_n 1, 1) := by decide +kernel
theorem dX9_letterOf_56 : decode cX9_letterOf 56 = .ok (.iaload, 1) := by decide +kernel
theorem dX9_letterOf_57 : decode cX9_letterOf 57 = .ok (.ireturn, 1) := by decide +kernel
theorem dX9_letterOf_58 : decode cX9_letterOf 58 = .ok (.aload_n 0, 1) := by decide +kernel
theorem dX9_letterOf_59 : decode cX9_letterOf 59 = .ok (.getfield 31, 3) := by decide +kernel
theorem dX9_letterOf_62 : decode cX9_letterOf 62 = .ok (.iload_n 1, 1) := by decide +kernel
theorem dX9_letterOf_63 : decode cX9_letterOf 63 = .ok (.iaload, 1) := by decide +kernel
theorem dX9_letterOf_64 : decode cX9_letterOf 64 = .ok (.ireturn, 1) := by decide +kernel
theorem dX9_letterOf_65 : decode cX9_letterOf 65 = .ok (.aload_n 0, 1) := by decide +kernel
theorem dX9_letterOf_66 : decode cX9_letterOf 66 = .ok (.aload_n 0, 1) := by decide +kernel
theorem dX9_letterOf_67 : decode cX9_letterOf 67 = .ok (.getfield 28, 3) := by decide +kernel
theorem dX9_letterOf_70 : decode cX9_letterOf 70 = .ok (.iload_n 1, 1) := by decide +kernel
theorem dX9_letterOf_71 : decode cX9_letterOf 71 = .ok (.iaload, 1) := by decide +kernel
theorem dX9_letterOf_72 : decode cX9_letterOf 72 = .ok (.aload_n 0, 1) := by decide +kernel
theorem dX9_letterOf_73 : decode cX9_letterOf 73 = .ok (.getfield 25, 3) := by decide +kernel
theorem dX9_letterOf_76 : decode cX9_letterOf 76 = .ok (.iload_n 1, 1) := by decide +kernel
theorem dX9_letterOf_77 : decode cX9_letterOf 77 = .ok (.iaload, 1) := by decide +kernel
theorem dX9_letterOf_78 : decode cX9_letterOf 78 = .ok (.invokevirtual 199, 3) := by decide +kernel
theorem dX9_letterOf_81 : decode cX9_letterOf 81 = .ok (.ireturn, 1) := by decide +kernel
theorem dX9_letterOf_82 : decode cX9_letterOf 82 = .ok (.aload_n 0, 1) := by decide +kernel
theorem dX9_letterOf_83 : decode cX9_letterOf 83 = .ok (.bipush (-2), 2) := by decide +kernel
theorem dX9_letterOf_85 : decode cX9_letterOf 85 = .ok (.invokevirtual 79, 3) := by decide +kernel
theorem dX9_letterOf_88 : decode cX9_letterOf 88 = .ok (.ireturn, 1) := by decide +kernel
theorem dX9_hate_0 : decode cX9_hate 0 = .ok (.aload_n 0, 1) := by decide +kernel
theorem dX9_hate_1 : decode cX9_hate 1 = .ok (.iload_n 1, 1) := by decide +kernel
theorem dX9_hate_2 : decode cX9_hate 2 = .ok (.iload_n 2, 1) := by decide +kernel
theorem dX9_hate_3 : decode cX9_hate 3 = .ok (.invokevirtual 125, 3) := by decide +kernel
theorem dX9_hate_6 : decode cX9_hate 6 = .ok (.ifCond .eq 12, 3) := by decide +kernel
theorem dX9_hate_9 : decode cX9_hate 9 = .ok (.aload_n 0, 1) := by decide +kernel
theorem dX9_hate_10 : decode cX9_hate 10 = .ok (.iload_n 1, 1) := by decide +kernel
theorem dX9_hate_11 : decode cX9_hate 11 = .ok (.iload_n 2, 1) := by decide +kernel
theorem dX9_hate_12 : decode cX9_hate 12 = .ok (.invokevirtual 180, 3) := by decide +kernel
theorem dX9_hate_15 : decode cX9_hate 15 = .ok (.goto 8, 3) := by decide +kernel
theorem dX9_hate_18 : decode cX9_hate 18 = .ok (.aload_n 0, 1) := by decide +kernel
theorem dX9_hate_19 : decode cX9_hate 19 = .ok (.iconst (-1), 1) := by decide +kernel
theorem dX9_hate_20 : decode cX9_hate 20 = .ok (.invokevirtual 79, 3) := by decide +kernel
theorem dX9_hate_23 : decode cX9_hate 23 = .ok (.ireturn, 1) := by decide +kernel
theorem dX9_keeper_0 : decode cX9_keeper 0 = .ok (.iload_n 1, 1) := by decide +kernel
theorem dX9_keeper_1 : decode cX9_keeper 1 = .ok (.iconst 0, 1) := by decide +kernel
theorem dX9_keeper_2 : decode cX9_keeper 2 = .ok (.iconst 5, 1) := by decide +kernel
theorem dX9_keeper_3 : decode cX9_keeper 3 = .ok (.invokestatic 90, 3) := by decide +kernel
theorem dX9_keeper_6 : decode cX9_keeper 6 = .ok (.ifCond .ne 8, 3) := by decide +kernel
theorem dX9_keeper_9 : decode cX9_keeper 9 = .ok (.bipush (-2), 2) := by decide +kernel
theorem dX9_keeper_11 : decode cX9_keeper 11 = .ok (.goto 10, 3) := by decide +kernel
theorem dX9_keeper_14 : decode cX9_keeper 14 = .ok (.iload_n 2, 1) := by decide +kernel
theorem dX9_keeper_15 : decode cX9_keeper 15 = .ok (.iconst 0, 1) := by decide +kernel
theorem dX9_keeper_16 : decode cX9_keeper 16 = .ok (.bipush 9, 2) := by decide +kernel
theorem dX9_keeper_18 : decode cX9_keeper 18 = .ok (.invokestatic 72, 3) := by decide +kernel
theorem dX9_keeper_21 : decode cX9_keeper 21 = .ok (.istore 4, 2) := by decide +kernel
theorem dX9_keeper_23 : decode cX9_keeper 23 = .ok (.iload 4, 2) := by decide +kernel
theorem dX9_keeper_25 : decode cX9_keeper 25 = .ok (.ifCond .ne 16, 3) := by decide +kernel
theorem dX9_keeper_28 : decode cX9_keeper 28 = .ok (.aload_n 0, 1) := by decide +kernel
theorem dX9_keeper_29 : decode cX9_keeper 29 = .ok (.getfield 65, 3) := by decide +kernel
theorem dX9_keeper_32 : decode cX9_keeper 32 = .ok (.bipush 6, 2) := by decide +kernel
theorem dX9_keeper_34 : decode cX9_keeper 34 = .ok (.if_icmp .ne 7, 3) := by decide +kernel
theorem dX9_keeper_37 : decode cX9_keeper 37 = .ok (.bipush (-6), 2) := by decide +kernel
theorem dX9_keeper_39 : decode cX9_keeper 39 = .ok (.istore 4, 2) := by decide +kernel
theorem dX9_keeper_41 : decode cX9_keeper 41 = .ok (.iload 4, 2) := by decide +kernel
theorem dX9_keeper_43 : decode cX9_keeper 43 = .ok (.ifCond .ne 13, 3) := by decide +kernel
theorem dX9_keeper_46 : decode cX9_keeper 46 = .ok (.iload_n 3, 1) := by decide +kernel
theorem dX9_keeper_47 : decode cX9_keeper 47 = .ok (.invokestatic 104, 3) := by decide +kernel
theorem dX9_keeper_50 : decode cX9_keeper 50 = .ok (.ifCond .ne 6, 3) := by decide +kernel
theorem dX9_keeper_53 : decode cX9_keeper 53 = .ok (.iconst (-1), 1) := by decide +kernel
theorem dX9_keeper_54 : decode cX9_keeper 54 = .ok (.istore 4, 2) := by decide +kernel
theorem dX9_keeper_56 : decode cX9_keeper 56 = .ok (.iload 4, 2) := by decide +kernel
theorem dX9_keeper_58 : decode cX9_keeper 58 = .ok (.ifCond .eq 10, 3) := by decide +kernel
theorem dX9_keeper_61 : decode cX9_keeper 61 = .ok (.aload_n 0, 1) := by decide +kernel
theorem dX9_keeper_62 : decode cX9_keeper 62 = .ok (.iload 4, 2) := by decide +kernel
theorem dX9_keeper_64 : decode cX9_keeper 64 = .ok (.invokevirtual 79, 3) := by decide +kernel
theorem dX9_keeper_67 : decode cX9_keeper 67 = .ok (.ireturn, 1) := by decide +kernel
theorem dX9_keeper_68 : decode cX9_keeper 68 = .ok (.aload_n 0, 1) := by decide +kernel
theorem dX9_keeper_69 : decode cX9_keeper 69 = .ok (.iconst 0, 1) := by decide +kernel
theorem dX9_keeper_70 : decode cX9_keeper 70 = .ok (.putfield 151, 3) := by decide +kernel
theorem dX9_keeper_73 : decode cX9_keeper 73 = .ok (.aload_n 0, 1) := by decide +kernel
theorem dX9_keeper_74 : decode cX9_keeper 74 = .ok (.iload_n 1, 1) := by decide +kernel
theorem dX9_keeper_75 : decode cX9_keeper 75 = .ok (.iload_n 2, 1) := by decide +kernel
theorem dX9_keeper_76 : decode cX9_keeper 76 = .ok (.iload_n 3, 1) := by decide +kernel
theorem dX9_keeper_77 : decode cX9_keeper 77 = .ok (.invokevirtual 107, 3) := by decide +kernel
theorem dX9_keeper_80 : decode cX9_keeper 80 = .ok (.aload_n 0, 1) := by decide +kernel
theorem dX9_keeper_81 : decode cX9_keeper 81 = .ok (.getfield 65, 3) := by decide +kernel
theorem dX9_keeper_84 : decode cX9_keeper 84 = .ok (.iconst 1, 1) := by decide +kernel
theorem dX9_keeper_85 : decode cX9_keeper 85 = .ok (.isub, 1) := by decide +kernel
theorem dX9_keeper_86 : decode cX9_keeper 86 = .ok (.ireturn, 1) := by decide +kernel
theorem dX9_letter_0 : decode cX9_letter 0 = .ok (.iload_n 1, 1) := by decide +kernel
theorem dX9_letter_1 : decode cX9_letter 1 = .ok (.invokestatic 104, 3) := by decide +kernel
theorem dX9_letter_4 : decode cX9_letter 4 = .ok (.ifCond .ne 7, 3) := by decide +kernel
theorem dX9_letter_7 : decode cX9_letter 7 = .ok (.iconst (-1), 1) := by decide +kernel
theorem dX9_letter_8 : decode cX9_letter 8 = .ok (.goto 10, 3) := by decide +kernel
theorem dX9_letter_11 : decode cX9_letter 11 = .ok (.iload_n 2, 1) := by decide +kernel
theorem dX9_letter_12 : decode cX9_letter 12 = .ok (.iconst 0, 1) := by decide +kernel
theorem dX9_letter_13 : decode cX9_letter 13 = .ok (.bipush 99, 2) := by decide +kernel
theorem dX9_letter_15 : decode cX9_letter 15 = .ok (.invokestatic 72, 3) := by decide +kernel
theorem dX9_letter_18 : decode cX9_letter 18 = .ok (.istore_n 3, 1) := by decide +kernel
theorem dX9_letter_19 : decode cX9_letter 19 = .ok (.iload_n 3, 1) := by decide +kernel
theorem dX9_letter_20 : decode cX9_letter 20 = .ok (.ifCond .ne 15, 3) := by decide +kernel
theorem dX9_letter_23 : decode cX9_letter 23 = .ok (.aload_n 0, 1) := by decide +kernel
theorem dX9_letter_24 : decode cX9_letter 24 = .ok (.getfield 58, 3) := by decide +kernel
theorem dX9_letter_27 : decode cX9_letter 27 = .ok (.bipush 6, 2) := by decide +kernel
theorem dX9_letter_29 : decode cX9_letter 29 = .ok (.if_icmp .ne 6, 3) := by decide +kernel
theorem dX9_letter_32 : decode cX9_letter 32 = .ok (.bipush (-6), 2) := by decide +kernel
theorem dX9_letter_34 : decode cX9_letter 34 = .ok (.istore_n 3, 1) := by decide +kernel
theorem dX9_letter_35 : decode cX9_letter 35 = .ok (.iload_n 3, 1) := by decide +kernel
theorem dX9_letter_36 : decode cX9_letter 36 = .ok (.ifCond .eq 9, 3) := by decide +kernel
theorem dX9_letter_39 : decode cX9_letter 39 = .ok (.aload_n 0, 1) := by decide +kernel
theorem dX9_letter_40 : decode cX9_letter 40 = .ok (.iload_n 3, 1) := by decide +kernel
theorem dX9_letter_41 : decode cX9_letter 41 = .ok (.invokevirtual 79, 3) := by decide +kernel
theorem dX9_letter_44 : decode cX9_letter 44 = .ok (.ireturn, 1) := by decide +kernel
theorem dX9_letter_45 : decode cX9_letter 45 = .ok (.aload_n 0, 1) := by decide +kernel
theorem dX9_letter_46 : decode cX9_letter 46 = .ok (.iconst 0, 1) := by decide +kernel
theorem dX9_letter_47 : decode cX9_letter 47 = .ok (.putfield 151, 3) := by decide +kernel
theorem dX9_letter_50 : decode cX9_letter 50 = .ok (.aload_n 0, 1) := by decide +kernel
theorem dX9_letter_51 : decode cX9_letter 51 = .ok (.iload_n 1, 1) := by decide +kernel
theorem dX9_letter_52 : decode cX9_letter 52 = .ok (.iload_n 2, 1) := by decide +kernel
theorem dX9_letter_53 : decode cX9_letter 53 = .ok (.invokevirtual 111, 3) := by decide +kernel
theorem dX9_letter_56 : decode cX9_letter 56 = .ok (.aload_n 0, 1) := by decide +kernel
theorem dX9_letter_57 : decode cX9_letter 57 = .ok (.getfield 58, 3) := by decide +kernel
theorem dX9_letter_60 : decode cX9_letter 60 = .ok (.iconst 1, 1) := by decide +kernel
theorem dX9_letter_61 : decode cX9_letter 61 = .ok (.isub, 1) := by decide +kernel
theorem dX9_letter_62 : decode cX9_letter 62 = .ok (.ireturn, 1) := by decide +kernel
theorem dX9_hates_0 : decode cX9_hates 0 = .ok (.aload_n 0, 1) := by decide +kernel
theorem dX9_hates_1 : decode cX9_hates 1 = .ok (.iload_n 1, 1) := by decide +kernel
theorem dX9_hates_2 : decode cX9_hates 2 = .ok (.iload_n 2, 1) := by decide +kernel
theorem dX9_hates_3 : decode cX9_hates 3 = .ok (.invokevirtual 125, 3) := by decide +kernel
theorem dX9_hates_6 : decode cX9_hates 6 = .ok (.ifCond .ne 7, 3) := by decide +kernel
theorem dX9_hates_9 : decode cX9_hates 9 = .ok (.iconst (-1), 1) := by decide +kernel
theorem dX9_hates_10 : decode cX9_hates 10 = .ok (.goto 10, 3) := by decide +kernel
theorem dX9_hates_13 : decode cX9_hates 13 = .ok (.iload_n 3, 1) := by decide +kernel
theorem dX9_hates_14 : decode cX9_hates 14 = .ok (.iconst 0, 1) := by decide +kernel
theorem dX9_hates_15 : decode cX9_hates 15 = .ok (.bipush 99, 2) := by decide +kernel
theorem dX9_hates_17 : decode cX9_hates 17 = .ok (.invokestatic 72, 3) := by decide +kernel
theorem dX9_hates_20 : decode cX9_hates 20 = .ok (.istore 4, 2) := by decide +kernel
theorem dX9_hates_22 : decode cX9_hates 22 = .ok (.iload 4, 2) := by decide +kernel
theorem dX9_hates_24 : decode cX9_hates 24 = .ok (.ifCond .eq 10, 3) := by decide +kernel
theorem dX9_hates_27 : decode cX9_hates 27 = .ok (.aload_n 0, 1) := by decide +kernel
theorem dX9_hates_28 : decode cX9_hates 28 = .ok (.iload 4, 2) := by decide +kernel
theorem dX9_hates_30 : decode cX9_hates 30 = .ok (.invokevirtual 79, 3) := by decide +kernel
theorem dX9_hates_33 : decode cX9_hates 33 = .ok (.ireturn, 1) := by decide +kernel
theorem dX9_hates_34 : decode cX9_hates 34 = .ok (.aload_n 0, 1) := by decide +kernel
theorem dX9_hates_35 : decode cX9_hates 35 = .ok (.invokevirtual 208, 3) := by decide +kernel
theorem dX9_hates_38 : decode cX9_hates 38 = .ok (.aload_n 0, 1) := by decide +kernel
theorem dX9_hates_39 : decode cX9_hates 39 = .ok (.iload_n 1, 1) := by decide +kernel
theorem dX9_hates_40 : decode cX9_hates 40 = .ok (.iload_n 2, 1) := by decide +kernel
theorem dX9_hates_41 : decode cX9_hates 41 = .ok (.invokevirtual 180, 3) := by decide +kernel
theorem dX9_hates_44 : decode cX9_hates 44 = .ok (.istore 5, 2) := by decide +kernel
theorem dX9_hates_46 : decode cX9_hates 46 = .ok (.aload_n 0, 1) := by decide +kernel
theorem dX9_hates_47 : decode cX9_hates 47 = .ok (.iload_n 1, 1) := by decide +kernel
theorem dX9_hates_48 : decode cX9_hates 48 = .ok (.iload_n 2, 1) := by decide +kernel
theorem dX9_hates_49 : decode cX9_hates 49 = .ok (.iload_n 3, 1) := by decide +kernel
theorem dX9_hates_50 : decode cX9_hates 50 = .ok (.invokevirtual 128, 3) := by decide +kernel
theorem dX9_hates_53 : decode cX9_hates 53 = .ok (.iload 5, 2) := by decide +kernel
theorem dX9_hates_55 : decode cX9_hates 55 = .ok (.ireturn, 1) := by decide +kernel
theorem dX9_goes_0 : decode cX9_goes 0 = .ok (.aload_n 0, 1) := by decide +kernel
theorem dX9_goes_1 : decode cX9_goes 1 = .ok (.iload_n 1, 1) := by decide +kernel
theorem dX9_goes_2 : decode cX9_goes 2 = .ok (.invokevirtual 68, 3) := by decide +kernel
theorem dX9_goes_5 : decode cX9_goes 5 = .ok (.ifCond .eq 10, 3) := by decide +kernel
theorem dX9_goes_8 : decode cX9_goes 8 = .ok (.iload_n 2, 1) := by decide +kernel
theorem dX9_goes_9 : decode cX9_goes 9 = .ok (.invokestatic 104, 3) := by decide +kernel
theorem dX9_goes_12 : decode cX9_goes 12 = .ok (.ifCond .ne 9, 3) := by decide +kernel
theorem dX9_goes_15 : decode cX9_goes 15 = .ok (.aload_n 0, 1) := by decide +kernel
theorem dX9_goes_16 : decode cX9_goes 16 = .ok (.iconst (-1), 1) := by decide +kernel
theorem dX9_goes_17 : decode cX9_goes 17 = .ok (.invokevirtual 79, 3) := by decide +kernel
theorem dX9_goes_20 : decode cX9_goes 20 = .ok (.ireturn, 1) := by decide +kernel
theorem dX9_goes_21 : decode cX9_goes 21 = .ok (.aload_n 0, 1) := by decide +kernel
theorem dX9_goes_22 : decode cX9_goes 22 = .ok (.invokevirtual 208, 3) := by decide +kernel
theorem dX9_goes_25 : decode cX9_goes 25 = .ok (.aload_n 0, 1) := by decide +kernel
theorem dX9_goes_26 : decode cX9_goes 26 = .ok (.getfield 19, 3) := by decide +kernel
theorem dX9_goes_29 : decode cX9_goes 29 = .ok (.iload_n 1, 1) := by decide +kernel
theorem dX9_goes_30 : decode cX9_goes 30 = .ok (.iaload, 1) := by decide +kernel
theorem dX9_goes_31 : decode cX9_goes 31 = .ok (.istore_n 3, 1) := by decide +kernel
theorem dX9_goes_32 : decode cX9_goes 32 = .ok (.aload_n 0, 1) := by decide +kernel
theorem dX9_goes_33 : decode cX9_goes 33 = .ok (.getfield 19, 3) := by decide +kernel
theorem dX9_goes_36 : decode cX9_goes 36 = .ok (.iload_n 1, 1) := by decide +kernel
theorem dX9_goes_37 : decode cX9_goes 37 = .ok (.iload_n 2, 1) := by decide +kernel
theorem dX9_goes_38 : decode cX9_goes 38 = .ok (.iastore, 1) := by decide +kernel
theorem dX9_goes_39 : decode cX9_goes 39 = .ok (.iload_n 3, 1) := by decide +kernel
theorem dX9_goes_40 : decode cX9_goes 40 = .ok (.ireturn, 1) := by decide +kernel
theorem dX9_seals_0 : decode cX9_seals 0 = .ok (.aload_n 0, 1) := by decide +kernel
theorem dX9_seals_1 : decode cX9_seals 1 = .ok (.iload_n 1, 1) := by decide +kernel
theorem dX9_seals_2 : decode cX9_seals 2 = .ok (.invokevirtual 134, 3) := by decide +kernel
theorem dX9_seals_5 : decode cX9_seals 5 = .ok (.ifCond .ne 9, 3) := by decide +kernel
theorem dX9_seals_8 : decode cX9_seals 8 = .ok (.aload_n 0, 1) := by decide +kernel
theorem dX9_seals_9 : decode cX9_seals 9 = .ok (.iconst (-1), 1) := by decide +kernel
theorem dX9_seals_10 : decode cX9_seals 10 = .ok (.invokevirtual 79, 3) := by decide +kernel
theorem dX9_seals_13 : decode cX9_seals 13 = .ok (.ireturn, 1) := by decide +kernel
theorem dX9_seals_14 : decode cX9_seals 14 = .ok (.aload_n 0, 1) := by decide +kernel
theorem dX9_seals_15 : decode cX9_seals 15 = .ok (.invokevirtual 208, 3) := by decide +kernel
theorem dX9_seals_18 : decode cX9_seals 18 = .ok (.aload_n 0, 1) := by decide +kernel
theorem dX9_seals_19 : decode cX9_seals 19 = .ok (.getfield 31, 3) := by decide +kernel
theorem dX9_seals_22 : decode cX9_seals 22 = .ok (.iload_n 1, 1) := by decide +kernel
theorem dX9_seals_23 : decode cX9_seals 23 = .ok (.iconst 1, 1) := by decide +kernel
theorem dX9_seals_24 : decode cX9_seals 24 = .ok (.aload_n 0, 1) := by decide +kernel
theorem dX9_seals_25 : decode cX9_seals 25 = .ok (.getfield 31, 3) := by decide +kernel
theorem dX9_seals_28 : decode cX9_seals 28 = .ok (.iload_n 1, 1) := by decide +kernel
theorem dX9_seals_29 : decode cX9_seals 29 = .ok (.iaload, 1) := by decide +kernel
theorem dX9_seals_30 : decode cX9_seals 30 = .ok (.isub, 1) := by decide +kernel
theorem dX9_seals_31 : decode cX9_seals 31 = .ok (.iastore, 1) := by decide +kernel
theorem dX9_seals_32 : decode cX9_seals 32 = .ok (.aload_n 0, 1) := by decide +kernel
theorem dX9_seals_33 : decode cX9_seals 33 = .ok (.getfield 31, 3) := by decide +kernel
theorem dX9_seals_36 : decode cX9_seals 36 = .ok (.iload_n 1, 1) := by decide +kernel
theorem dX9_seals_37 : decode cX9_seals 37 = .ok (.iaload, 1) := by decide +kernel
theorem dX9_seals_38 : decode cX9_seals 38 = .ok (.ireturn, 1) := by decide +kernel
theorem dX9_weeks_0 : decode cX9_weeks 0 = .ok (.iload_n 1, 1) := by decide +kernel
theorem dX9_weeks_1 : decode cX9_weeks 1 = .ok (.iconst 1, 1) := by decide +kernel
theorem dX9_weeks_2 : decode cX9_weeks 2 = .ok (.bipush 60, 2) := by decide +kernel
theorem dX9_weeks_4 : decode cX9_weeks 4 = .ok (.invokestatic 72, 3) := by decide +kernel
theorem dX9_weeks_7 : decode cX9_weeks 7 = .ok (.istore_n 2, 1) := by decide +kernel
theorem dX9_weeks_8 : decode cX9_weeks 8 = .ok (.iload_n 2, 1) := by decide +kernel
theorem dX9_weeks_9 : decode cX9_weeks 9 = .ok (.ifCond .ne 18, 3) := by decide +kernel
theorem dX9_weeks_12 : decode cX9_weeks 12 = .ok (.aload_n 0, 1) := by decide +kernel
theorem dX9_weeks_13 : decode cX9_weeks 13 = .ok (.getfield 115, 3) := by decide +kernel
theorem dX9_weeks_16 : decode cX9_weeks 16 = .ok (.iload_n 1, 1) := by decide +kernel
theorem dX9_weeks_17 : decode cX9_weeks 17 = .ok (.iadd, 1) := by decide +kernel
theorem dX9_weeks_18 : decode cX9_weeks 18 = .ok (.sipush 999, 3) := by decide +kernel
theorem dX9_weeks_21 : decode cX9_weeks 21 = .ok (.if_icmp .le 6, 3) := by decide +kernel
theorem dX9_weeks_24 : decode cX9_weeks 24 = .ok (.bipush (-6), 2) := by decide +kernel
theorem dX9_weeks_26 : decode cX9_weeks 26 = .ok (.istore_n 2, 1) := by decide +kernel
theorem dX9_weeks_27 : decode cX9_weeks 27 = .ok (.iload_n 2, 1) := by decide +kernel
theorem dX9_weeks_28 : decode cX9_weeks 28 = .ok (.ifCond .eq 9, 3) := by decide +kernel
theorem dX9_weeks_31 : decode cX9_weeks 31 = .ok (.aload_n 0, 1) := by decide +kernel
theorem dX9_weeks_32 : decode cX9_weeks 32 = .ok (.iload_n 2, 1) := by decide +kernel
theorem dX9_weeks_33 : decode cX9_weeks 33 = .ok (.invokevirtual 79, 3) := by decide +kernel
theorem dX9_weeks_36 : decode cX9_weeks 36 = .ok (.ireturn, 1) := by decide +kernel
theorem dX9_weeks_37 : decode cX9_weeks 37 = .ok (.aload_n 0, 1) := by decide +kernel
theorem dX9_weeks_38 : decode cX9_weeks 38 = .ok (.invokevirtual 208, 3) := by decide +kernel
theorem dX9_weeks_41 : decode cX9_weeks 41 = .ok (.aload_n 0, 1) := by decide +kernel
theorem dX9_weeks_42 : decode cX9_weeks 42 = .ok (.iload_n 1, 1) := by decide +kernel
theorem dX9_weeks_43 : decode cX9_weeks 43 = .ok (.invokevirtual 118, 3) := by decide +kernel
theorem dX9_weeks_46 : decode cX9_weeks 46 = .ok (.aload_n 0, 1) := by decide +kernel
theorem dX9_weeks_47 : decode cX9_weeks 47 = .ok (.invokevirtual 211, 3) := by decide +kernel
theorem dX9_weeks_50 : decode cX9_weeks 50 = .ok (.invokestatic 214, 3) := by decide +kernel
theorem dX9_weeks_53 : decode cX9_weeks 53 = .ok (.ireturn, 1) := by decide +kernel
theorem dX9_notWeeks_0 : decode cX9_notWeeks 0 = .ok (.iload_n 0, 1) := by decide +kernel
theorem dX9_notWeeks_1 : decode cX9_notWeeks 1 = .ok (.iconst 0, 1) := by decide +kernel
theorem dX9_notWeeks_2 : decode cX9_notWeeks 2 = .ok (.bipush 60, 2) := by decide +kernel
theorem dX9_notWeeks_4 : decode cX9_notWeeks 4 = .ok (.invokestatic 72, 3) := by decide +kernel
theorem dX9_notWeeks_7 : decode cX9_notWeeks 7 = .ok (.ireturn, 1) := by decide +kernel
theorem dX9_hateIn_0 : decode cX9_hateIn 0 = .ok (.aload_n 0, 1) := by decide +kernel
theorem dX9_hateIn_1 : decode cX9_hateIn 1 = .ok (.invokevirtual 217, 3) := by decide +kernel
theorem dX9_hateIn_4 : decode cX9_hateIn 4 = .ok (.aload_n 0, 1) := by decide +kernel
theorem dX9_hateIn_5 : decode cX9_hateIn 5 = .ok (.iload_n 3, 1) := by decide +kernel
theorem dX9_hateIn_6 : decode cX9_hateIn 6 = .ok (.invokevirtual 118, 3) := by decide +kernel
theorem dX9_hateIn_9 : decode cX9_hateIn 9 = .ok (.aload_n 0, 1) := by decide +kernel
theorem dX9_hateIn_10 : decode cX9_hateIn 10 = .ok (.iload_n 1, 1) := by decide +kernel
theorem dX9_hateIn_11 : decode cX9_hateIn 11 = .ok (.iload_n 2, 1) := by decide +kernel
theorem dX9_hateIn_12 : decode cX9_hateIn 12 = .ok (.invokevirtual 180, 3) := by decide +kernel
theorem dX9_hateIn_15 : decode cX9_hateIn 15 = .ok (.istore 4, 2) := by decide +kernel
theorem dX9_hateIn_17 : decode cX9_hateIn 17 = .ok (.aload_n 0, 1) := by decide +kernel
theorem dX9_hateIn_18 : decode cX9_hateIn 18 = .ok (.invokevirtual 220, 3) := by decide +kernel
theorem dX9_hateIn_21 : decode cX9_hateIn 21 = .ok (.iload 4, 2) := by decide +kernel
theorem dX9_hateIn_23 : decode cX9_hateIn 23 = .ok (.ireturn, 1) := by decide +kernel
theorem dX9_openIn_0 : decode cX9_openIn 0 = .ok (.aload_n 0, 1) := by decide +kernel
theorem dX9_openIn_1 : decode cX9_openIn 1 = .ok (.invokevirtual 217, 3) := by decide +kernel
theorem dX9_openIn_4 : decode cX9_openIn 4 = .ok (.aload_n 0, 1) := by decide +kernel
theorem dX9_openIn_5 : decode cX9_openIn 5 = .ok (.iload_n 1, 1) := by decide +kernel
theorem dX9_openIn_6 : decode cX9_openIn 6 = .ok (.invokevirtual 118, 3) := by decide +kernel
theorem dX9_openIn_9 : decode cX9_openIn 9 = .ok (.aload_n 0, 1) := by decide +kernel
theorem dX9_openIn_10 : decode cX9_openIn 10 = .ok (.invokevirtual 211, 3) := by decide +kernel
theorem dX9_openIn_13 : decode cX9_openIn 13 = .ok (.istore_n 2, 1) := by decide +kernel
theorem dX9_openIn_14 : decode cX9_openIn 14 = .ok (.aload_n 0, 1) := by decide +kernel
theorem dX9_openIn_15 : decode cX9_openIn 15 = .ok (.invokevirtual 220, 3) := by decide +kernel
theorem dX9_openIn_18 : decode cX9_openIn 18 = .ok (.iload_n 2, 1) := by decide +kernel
theorem dX9_openIn_19 : decode cX9_openIn 19 = .ok (.ireturn, 1) := by decide +kernel
theorem dX9_behind_0 : decode cX9_behind 0 = .ok (.aload_n 0, 1) := by decide +kernel
theorem dX9_behind_1 : decode cX9_behind 1 = .ok (.iload_n 1, 1) := by decide +kernel
theorem dX9_behind_2 : decode cX9_behind 2 = .ok (.iload_n 2, 1) := by decide +kernel
theorem dX9_behind_3 : decode cX9_behind 3 = .ok (.invokevirtual 125, 3) := by decide +kernel
theorem dX9_behind_6 : decode cX9_behind 6 = .ok (.ifCond .ne 7, 3) := by decide +kernel
theorem dX9_behind_9 : decode cX9_behind 9 = .ok (.iconst (-1), 1) := by decide +kernel
theorem dX9_behind_10 : decode cX9_behind 10 = .ok (.goto 7, 3) := by decide +kernel
theorem dX9_behind_13 : decode cX9_behind 13 = .ok (.iload_n 3, 1) := by decide +kernel
theorem dX9_behind_14 : decode cX9_behind 14 = .ok (.invokestatic 223, 3) := by decide +kernel
theorem dX9_behind_17 : decode cX9_behind 17 = .ok (.istore 4, 2) := by decide +kernel
theorem dX9_behind_19 : decode cX9_behind 19 = .ok (.iload 4, 2) := by decide +kernel
theorem dX9_behind_21 : decode cX9_behind 21 = .ok (.ifCond .eq 12, 3) := by decide +kernel
theorem dX9_behind_24 : decode cX9_behind 24 = .ok (.aload_n 0, 1) := by decide +kernel
theorem dX9_behind_25 : decode cX9_behind 25 = .ok (.iload 4, 2) := by decide +kernel
theorem dX9_behind_27 : decode cX9_behind 27 = .ok (.invokevirtual 79, 3) := by decide +kernel
theorem dX9_behind_30 : decode cX9_behind 30 = .ok (.goto 10, 3) := by decide +kernel
theorem dX9_behind_33 : decode cX9_behind 33 = .ok (.aload_n 0, 1) := by decide +kernel
theorem dX9_behind_34 : decode cX9_behind 34 = .ok (.iload_n 1, 1) := by decide +kernel
theorem dX9_behind_35 : decode cX9_behind 35 = .ok (.iload_n 2, 1) := by decide +kernel
theorem dX9_behind_36 : decode cX9_behind 36 = .ok (.iload_n 3, 1) := by decide +kernel
theorem dX9_behind_37 : decode cX9_behind 37 = .ok (.invokevirtual 226, 3) := by decide +kernel
theorem dX9_behind_40 : decode cX9_behind 40 = .ok (.ireturn, 1) := by decide +kernel
theorem dX9_then_0 : decode cX9_then 0 = .ok (.iload_n 1, 1) := by decide +kernel
theorem dX9_then_1 : decode cX9_then 1 = .ok (.invokestatic 223, 3) := by decide +kernel
theorem dX9_then_4 : decode cX9_then 4 = .ok (.istore_n 3, 1) := by decide +kernel
theorem dX9_then_5 : decode cX9_then 5 = .ok (.iload_n 3, 1) := by decide +kernel
theorem dX9_then_6 : decode cX9_then 6 = .ok (.ifCond .ne 15, 3) := by decide +kernel
theorem dX9_then_9 : decode cX9_then 9 = .ok (.iload_n 2, 1) := by decide +kernel
theorem dX9_then_10 : decode cX9_then 10 = .ok (.iconst 0, 1) := by decide +kernel
theorem dX9_then_11 : decode cX9_then 11 = .ok (.iconst 1, 1) := by decide +kernel
theorem dX9_then_12 : decode cX9_then 12 = .ok (.invokestatic 90, 3) := by decide +kernel
theorem dX9_then_15 : decode cX9_then 15 = .ok (.ifCond .ne 6, 3) := by decide +kernel
theorem dX9_then_18 : decode cX9_then 18 = .ok (.bipush (-2), 2) := by decide +kernel
theorem dX9_then_20 : decode cX9_then 20 = .ok (.istore_n 3, 1) := by decide +kernel
theorem dX9_then_21 : decode cX9_then 21 = .ok (.iload_n 3, 1) := by decide +kernel
theorem dX9_then_22 : decode cX9_then 22 = .ok (.ifCond .eq 9, 3) := by decide +kernel
theorem dX9_then_25 : decode cX9_then 25 = .ok (.aload_n 0, 1) := by decide +kernel
theorem dX9_then_26 : decode cX9_then 26 = .ok (.iload_n 3, 1) := by decide +kernel
theorem dX9_then_27 : decode cX9_then 27 = .ok (.invokevirtual 79, 3) := by decide +kernel
theorem dX9_then_30 : decode cX9_then 30 = .ok (.ireturn, 1) := by decide +kernel
theorem dX9_then_31 : decode cX9_then 31 = .ok (.iload_n 2, 1) := by decide +kernel
theorem dX9_then_32 : decode cX9_then 32 = .ok (.ifCond .ne 9, 3) := by decide +kernel
theorem dX9_then_35 : decode cX9_then 35 = .ok (.aload_n 0, 1) := by decide +kernel
theorem dX9_then_36 : decode cX9_then 36 = .ok (.iload_n 1, 1) := by decide +kernel
theorem dX9_then_37 : decode cX9_then 37 = .ok (.invokevirtual 229, 3) := by decide +kernel
theorem dX9_then_40 : decode cX9_then 40 = .ok (.ireturn, 1) := by decide +kernel
theorem dX9_then_41 : decode cX9_then 41 = .ok (.aload_n 0, 1) := by decide +kernel
theorem dX9_then_42 : decode cX9_then 42 = .ok (.invokevirtual 217, 3) := by decide +kernel
theorem dX9_then_45 : decode cX9_then 45 = .ok (.aload_n 0, 1) := by decide +kernel
theorem dX9_then_46 : decode cX9_then 46 = .ok (.iload_n 1, 1) := by decide +kernel
theorem dX9_then_47 : decode cX9_then 47 = .ok (.invokevirtual 118, 3) := by decide +kernel
theorem dX9_then_50 : decode cX9_then 50 = .ok (.aload_n 0, 1) := by decide +kernel
theorem dX9_then_51 : decode cX9_then 51 = .ok (.invokevirtual 232, 3) := by decide +kernel
theorem dX9_then_54 : decode cX9_then 54 = .ok (.istore 4, 2) := by decide +kernel
theorem dX9_then_56 : decode cX9_then 56 = .ok (.aload_n 0, 1) := by decide +kernel
theorem dX9_then_57 : decode cX9_then 57 = .ok (.invokevirtual 220, 3) := by decide +kernel
theorem dX9_then_60 : decode cX9_then 60 = .ok (.iload 4, 2) := by decide +kernel
theorem dX9_then_62 : decode cX9_then 62 = .ok (.ireturn, 1) := by decide +kernel
theorem dX9_whenOf_0 : decode cX9_whenOf 0 = .ok (.aload_n 0, 1) := by decide +kernel
theorem dX9_whenOf_1 : decode cX9_whenOf 1 = .ok (.bipush (-9), 2) := by decide +kernel
theorem dX9_whenOf_3 : decode cX9_whenOf 3 = .ok (.putfield 235, 3) := by decide +kernel
theorem dX9_whenOf_6 : decode cX9_whenOf 6 = .ok (.aload_n 0, 1) := by decide +kernel
theorem dX9_whenOf_7 : decode cX9_whenOf 7 = .ok (.getfield 31, 3) := by decide +kernel
theorem dX9_whenOf_10 : decode cX9_whenOf 10 = .ok (.iload_n 1, 1) := by decide +kernel
theorem dX9_whenOf_11 : decode cX9_whenOf 11 = .ok (.iaload, 1) := by decide +kernel
theorem dX9_whenOf_12 : decode cX9_whenOf 12 = .ok (.iconst 1, 1) := by decide +kernel
theorem dX9_whenOf_13 : decode cX9_whenOf 13 = .ok (.if_icmp .ne 5, 3) := by decide +kernel
theorem dX9_whenOf_16 : decode cX9_whenOf 16 = .ok (.iconst 0, 1) := by decide +kernel
theorem dX9_whenOf_17 : decode cX9_whenOf 17 = .ok (.ireturn, 1) := by decide +kernel
theorem dX9_whenOf_18 : decode cX9_whenOf 18 = .ok (.aload_n 0, 1) := by decide +kernel
theorem dX9_whenOf_19 : decode cX9_whenOf 19 = .ok (.invokevirtual 217, 3) := by decide +kernel
theorem dX9_whenOf_22 : decode cX9_whenOf 22 = .ok (.bipush (-9), 2) := by decide +kernel
theorem dX9_whenOf_24 : decode cX9_whenOf 24 = .ok (.istore_n 2, 1) := by decide +kernel
theorem dX9_whenOf_25 : decode cX9_whenOf 25 = .ok (.iconst 1, 1) := by decide +kernel
theorem dX9_whenOf_26 : decode cX9_whenOf 26 = .ok (.istore_n 3, 1) := by decide +kernel
theorem dX9_whenOf_27 : decode cX9_whenOf 27 = .ok (.iload_n 3, 1) := by decide +kernel
theorem dX9_whenOf_28 : decode cX9_whenOf 28 = .ok (.bipush 60, 2) := by decide +kernel
theorem dX9_whenOf_30 : decode cX9_whenOf 30 = .ok (.if_icmp .gt 41, 3) := by decide +kernel
theorem dX9_whenOf_33 : decode cX9_whenOf 33 = .ok (.iload_n 2, 1) := by decide +kernel
theorem dX9_whenOf_34 : decode cX9_whenOf 34 = .ok (.ifCond .ge 37, 3) := by decide +kernel
theorem dX9_whenOf_37 : decode cX9_whenOf 37 = .ok (.aload_n 0, 1) := by decide +kernel
theorem dX9_whenOf_38 : decode cX9_whenOf 38 = .ok (.invokevirtual 202, 3) := by decide +kernel
theorem dX9_whenOf_41 : decode cX9_whenOf 41 = .ok (.aload_n 0, 1) := by decide +kernel
theorem dX9_whenOf_42 : decode cX9_whenOf 42 = .ok (.getfield 31, 3) := by decide +kernel
theorem dX9_whenOf_45 : decode cX9_whenOf 45 = .ok (.iload_n 1, 1) := by decide +kernel
theorem dX9_whenOf_46 : decode cX9_whenOf 46 = .ok (.iaload, 1) := by decide +kernel
theorem dX9_whenOf_47 : decode cX9_whenOf 47 = .ok (.ifCond .ne 6, 3) := by decide +kernel
theorem dX9_whenOf_50 : decode cX9_whenOf 50 = .ok (.goto 15, 3) := by decide +kernel
theorem dX9_whenOf_53 : decode cX9_whenOf 53 = .ok (.iload_n 3, 1) := by decide +kernel
theorem dX9_whenOf_54 : decode cX9_whenOf 54 = .ok (.istore_n 2, 1) := by decide +kernel
theorem dX9_whenOf_55 : decode cX9_whenOf 55 = .ok (.aload_n 0, 1) := by decide +kernel
theorem dX9_whenOf_56 : decode cX9_whenOf 56 = .ok (.aload_n 0, 1) := by decide +kernel
theorem dX9_whenOf_57 : decode cX9_whenOf 57 = .ok (.getfield 49, 3) := by decide +kernel
theorem dX9_whenOf_60 : decode cX9_whenOf 60 = .ok (.iload_n 1, 1) := by decide +kernel
theorem dX9_whenOf_61 : decode cX9_whenOf 61 = .ok (.iaload, 1) := by decide +kernel
theorem dX9_whenOf_62 : decode cX9_whenOf 62 = .ok (.putfield 235, 3) := by decide +kernel
theorem dX9_whenOf_65 : decode cX9_whenOf 65 = .ok (.iinc 3 1, 3) := by decide +kernel
theorem dX9_whenOf_68 : decode cX9_whenOf 68 = .ok (.goto (-41), 3) := by decide +kernel
theorem dX9_whenOf_71 : decode cX9_whenOf 71 = .ok (.aload_n 0, 1) := by decide +kernel
theorem dX9_whenOf_72 : decode cX9_whenOf 72 = .ok (.invokevirtual 220, 3) := by decide +kernel
theorem dX9_whenOf_75 : decode cX9_whenOf 75 = .ok (.iload_n 2, 1) := by decide +kernel
theorem dX9_whenOf_76 : decode cX9_whenOf 76 = .ok (.ireturn, 1) := by decide +kernel
theorem dX9_when_0 : decode cX9_when 0 = .ok (.aload_n 0, 1) := by decide +kernel
theorem dX9_when_1 : decode cX9_when 1 = .ok (.iload_n 1, 1) := by decide +kernel
theorem dX9_when_2 : decode cX9_when 2 = .ok (.invokevirtual 134, 3) := by decide +kernel
theorem dX9_when_5 : decode cX9_when 5 = .ok (.ifCond .ne 7, 3) := by decide +kernel
theorem dX9_when_8 : decode cX9_when 8 = .ok (.iconst (-1), 1) := by decide +kernel
theorem dX9_when_9 : decode cX9_when 9 = .ok (.goto 18, 3) := by decide +kernel
theorem dX9_when_12 : decode cX9_when 12 = .ok (.iload_n 2, 1) := by decide +kernel
theorem dX9_when_13 : decode cX9_when 13 = .ok (.iconst 0, 1) := by decide +kernel
theorem dX9_when_14 : decode cX9_when 14 = .ok (.iconst 1, 1) := by decide +kernel
theorem dX9_when_15 : decode cX9_when 15 = .ok (.invokestatic 90, 3) := by decide +kernel
theorem dX9_when_18 : decode cX9_when 18 = .ok (.ifCond .ne 8, 3) := by decide +kernel
theorem dX9_when_21 : decode cX9_when 21 = .ok (.bipush (-2), 2) := by decide +kernel
theorem dX9_when_23 : decode cX9_when 23 = .ok (.goto 4, 3) := by decide +kernel
theorem dX9_when_26 : decode cX9_when 26 = .ok (.iconst 0, 1) := by decide +kernel
theorem dX9_when_27 : decode cX9_when 27 = .ok (.istore_n 3, 1) := by decide +kernel
theorem dX9_when_28 : decode cX9_when 28 = .ok (.iload_n 3, 1) := by decide +kernel
theorem dX9_when_29 : decode cX9_when 29 = .ok (.ifCond .eq 9, 3) := by decide +kernel
theorem dX9_when_32 : decode cX9_when 32 = .ok (.aload_n 0, 1) := by decide +kernel
theorem dX9_when_33 : decode cX9_when 33 = .ok (.iload_n 3, 1) := by decide +kernel
theorem dX9_when_34 : decode cX9_when 34 = .ok (.invokevirtual 79, 3) := by decide +kernel
theorem dX9_when_37 : decode cX9_when 37 = .ok (.ireturn, 1) := by decide +kernel
theorem dX9_when_38 : decode cX9_when 38 = .ok (.aload_n 0, 1) := by decide +kernel
theorem dX9_when_39 : decode cX9_when 39 = .ok (.iload_n 1, 1) := by decide +kernel
theorem dX9_when_40 : decode cX9_when 40 = .ok (.invokevirtual 238, 3) := by decide +kernel
theorem dX9_when_43 : decode cX9_when 43 = .ok (.istore 4, 2) := by decide +kernel
theorem dX9_when_45 : decode cX9_when 45 = .ok (.iload_n 2, 1) := by decide +kernel
theorem dX9_when_46 : decode cX9_when 46 = .ok (.ifCond .ne 8, 3) := by decide +kernel
theorem dX9_when_49 : decode cX9_when 49 = .ok (.iload 4, 2) := by decide +kernel
theorem dX9_when_51 : decode cX9_when 51 = .ok (.goto 7, 3) := by decide +kernel
theorem dX9_when_54 : decode cX9_when 54 = .ok (.aload_n 0, 1) := by decide +kernel
theorem dX9_when_55 : decode cX9_when 55 = .ok (.getfield 235, 3) := by decide +kernel
theorem dX9_when_58 : decode cX9_when 58 = .ok (.ireturn, 1) := by decide +kernel
theorem dX9_lasts_0 : decode cX9_lasts 0 = .ok (.aload_n 0, 1) := by decide +kernel
theorem dX9_lasts_1 : decode cX9_lasts 1 = .ok (.iload_n 1, 1) := by decide +kernel
theorem dX9_lasts_2 : decode cX9_lasts 2 = .ok (.iload_n 2, 1) := by decide +kernel
theorem dX9_lasts_3 : decode cX9_lasts 3 = .ok (.invokevirtual 125, 3) := by decide +kernel
theorem dX9_lasts_6 : decode cX9_lasts 6 = .ok (.ifCond .ne 7, 3) := by decide +kernel
theorem dX9_lasts_9 : decode cX9_lasts 9 = .ok (.iconst (-1), 1) := by decide +kernel
theorem dX9_lasts_10 : decode cX9_lasts 10 = .ok (.goto 10, 3) := by decide +kernel
theorem dX9_lasts_13 : decode cX9_lasts 13 = .ok (.iload_n 3, 1) := by decide +kernel
theorem dX9_lasts_14 : decode cX9_lasts 14 = .ok (.iconst 0, 1) := by decide +kernel
theorem dX9_lasts_15 : decode cX9_lasts 15 = .ok (.bipush 99, 2) := by decide +kernel
theorem dX9_lasts_17 : decode cX9_lasts 17 = .ok (.invokestatic 72, 3) := by decide +kernel
theorem dX9_lasts_20 : decode cX9_lasts 20 = .ok (.istore 4, 2) := by decide +kernel
theorem dX9_lasts_22 : decode cX9_lasts 22 = .ok (.iload 4, 2) := by decide +kernel
theorem dX9_lasts_24 : decode cX9_lasts 24 = .ok (.ifCond .eq 10, 3) := by decide +kernel
theorem dX9_lasts_27 : decode cX9_lasts 27 = .ok (.aload_n 0, 1) := by decide +kernel
theorem dX9_lasts_28 : decode cX9_lasts 28 = .ok (.iload 4, 2) := by decide +kernel
theorem dX9_lasts_30 : decode cX9_lasts 30 = .ok (.invokevirtual 79, 3) := by decide +kernel
theorem dX9_lasts_33 : decode cX9_lasts 33 = .ok (.ireturn, 1) := by decide +kernel
theorem dX9_lasts_34 : decode cX9_lasts 34 = .ok (.aload_n 0, 1) := by decide +kernel
theorem dX9_lasts_35 : decode cX9_lasts 35 = .ok (.invokevirtual 217, 3) := by decide +kernel
theorem dX9_lasts_38 : decode cX9_lasts 38 = .ok (.bipush (-9), 2) := by decide +kernel
theorem dX9_lasts_40 : decode cX9_lasts 40 = .ok (.istore 5, 2) := by decide +kernel
theorem dX9_lasts_42 : decode cX9_lasts 42 = .ok (.iconst 0, 1) := by decide +kernel
theorem dX9_lasts_43 : decode cX9_lasts 43 = .ok (.istore 6, 2) := by decide +kernel
theorem dX9_lasts_45 : decode cX9_lasts 45 = .ok (.iload 6, 2) := by decide +kernel
theorem dX9_lasts_47 : decode cX9_lasts 47 = .ok (.bipush 60, 2) := by decide +kernel
theorem dX9_lasts_49 : decode cX9_lasts 49 = .ok (.if_icmp .gt 37, 3) := by decide +kernel
theorem dX9_lasts_52 : decode cX9_lasts 52 = .ok (.iload 5, 2) := by decide +kernel
theorem dX9_lasts_54 : decode cX9_lasts 54 = .ok (.ifCond .ge 32, 3) := by decide +kernel
theorem dX9_lasts_57 : decode cX9_lasts 57 = .ok (.aload_n 0, 1) := by decide +kernel
theorem dX9_lasts_58 : decode cX9_lasts 58 = .ok (.iload_n 1, 1) := by decide +kernel
theorem dX9_lasts_59 : decode cX9_lasts 59 = .ok (.iload_n 2, 1) := by decide +kernel
theorem dX9_lasts_60 : decode cX9_lasts 60 = .ok (.invokevirtual 180, 3) := by decide +kernel
theorem dX9_lasts_63 : decode cX9_lasts 63 = .ok (.iload_n 3, 1) := by decide +kernel
theorem dX9_lasts_64 : decode cX9_lasts 64 = .ok (.if_icmp .ge 8, 3) := by decide +kernel
theorem dX9_lasts_67 : decode cX9_lasts 67 = .ok (.iload 6, 2) := by decide +kernel
theorem dX9_lasts_69 : decode cX9_lasts 69 = .ok (.goto 5, 3) := by decide +kernel
theorem dX9_lasts_72 : decode cX9_lasts 72 = .ok (.bipush (-9), 2) := by decide +kernel
theorem dX9_lasts_74 : decode cX9_lasts 74 = .ok (.istore 5, 2) := by decide +kernel
theorem dX9_lasts_76 : decode cX9_lasts 76 = .ok (.aload_n 0, 1) := by decide +kernel
theorem dX9_lasts_77 : decode cX9_lasts 77 = .ok (.invokevirtual 202, 3) := by decide +kernel
theorem dX9_lasts_80 : decode cX9_lasts 80 = .ok (.iinc 6 1, 3) := by decide +kernel
theorem dX9_lasts_83 : decode cX9_lasts 83 = .ok (.goto (-38), 3) := by decide +kernel
theorem dX9_lasts_86 : decode cX9_lasts 86 = .ok (.aload_n 0, 1) := by decide +kernel
theorem dX9_lasts_87 : decode cX9_lasts 87 = .ok (.invokevirtual 220, 3) := by decide +kernel
theorem dX9_lasts_90 : decode cX9_lasts 90 = .ok (.iload 5, 2) := by decide +kernel
theorem dX9_lasts_92 : decode cX9_lasts 92 = .ok (.ireturn, 1) := by decide +kernel
theorem dX9_firstOne_0 : decode cX9_firstOne 0 = .ok (.bipush (-9), 2) := by decide +kernel
theorem dX9_firstOne_2 : decode cX9_firstOne 2 = .ok (.istore_n 1, 1) := by decide +kernel
theorem dX9_firstOne_3 : decode cX9_firstOne 3 = .ok (.bipush 61, 2) := by decide +kernel
theorem dX9_firstOne_5 : decode cX9_firstOne 5 = .ok (.istore_n 2, 1) := by decide +kernel
theorem dX9_firstOne_6 : decode cX9_firstOne 6 = .ok (.iconst 0, 1) := by decide +kernel
theorem dX9_firstOne_7 : decode cX9_firstOne 7 = .ok (.istore_n 3, 1) := by decide +kernel
theorem dX9_firstOne_8 : decode cX9_firstOne 8 = .ok (.iload_n 3, 1) := by decide +kernel
theorem dX9_firstOne_9 : decode cX9_firstOne 9 = .ok (.aload_n 0, 1) := by decide +kernel
theorem dX9_firstOne_10 : decode cX9_firstOne 10 = .ok (.getfield 58, 3) := by decide +kernel
theorem dX9_firstOne_13 : decode cX9_firstOne 13 = .ok (.if_icmp .ge 35, 3) := by decide +kernel
theorem dX9_firstOne_16 : decode cX9_firstOne 16 = .ok (.aload_n 0, 1) := by decide +kernel
theorem dX9_firstOne_17 : decode cX9_firstOne 17 = .ok (.iload_n 3, 1) := by decide +kernel
theorem dX9_firstOne_18 : decode cX9_firstOne 18 = .ok (.invokevirtual 238, 3) := by decide +kernel
theorem dX9_firstOne_21 : decode cX9_firstOne 21 = .ok (.istore 4, 2) := by decide +kernel
theorem dX9_firstOne_23 : decode cX9_firstOne 23 = .ok (.iload 4, 2) := by decide +kernel
theorem dX9_firstOne_25 : decode cX9_firstOne 25 = .ok (.ifCond .le 17, 3) := by decide +kernel
theorem dX9_firstOne_28 : decode cX9_firstOne 28 = .ok (.iload 4, 2) := by decide +kernel
theorem dX9_firstOne_30 : decode cX9_firstOne 30 = .ok (.iload_n 2, 1) := by decide +kernel
theorem dX9_firstOne_31 : decode cX9_firstOne 31 = .ok (.if_icmp .lt 6, 3) := by decide +kernel
theorem dX9_firstOne_34 : decode cX9_firstOne 34 = .ok (.goto 8, 3) := by decide +kernel
theorem dX9_firstOne_37 : decode cX9_firstOne 37 = .ok (.iload_n 3, 1) := by decide +kernel
theorem dX9_firstOne_38 : decode cX9_firstOne 38 = .ok (.istore_n 1, 1) := by decide +kernel
theorem dX9_firstOne_39 : decode cX9_firstOne 39 = .ok (.iload 4, 2) := by decide +kernel
theorem dX9_firstOne_41 : decode cX9_firstOne 41 = .ok (.istore_n 2, 1) := by decide +kernel
theorem dX9_firstOne_42 : decode cX9_firstOne 42 = .ok (.iinc 3 1, 3) := by decide +kernel
theorem dX9_firstOne_45 : decode cX9_firstOne 45 = .ok (.goto (-37), 3) := by decide +kernel
theorem dX9_firstOne_48 : decode cX9_firstOne 48 = .ok (.iload_n 1, 1) := by decide +kernel
theorem dX9_firstOne_49 : decode cX9_firstOne 49 = .ok (.ireturn, 1) := by decide +kernel
theorem dX9_never_0 : decode cX9_never 0 = .ok (.iload_n 1, 1) := by decide +kernel
theorem dX9_never_1 : decode cX9_never 1 = .ok (.iconst 0, 1) := by decide +kernel
theorem dX9_never_2 : decode cX9_never 2 = .ok (.iconst 1, 1) := by decide +kernel
theorem dX9_never_3 : decode cX9_never 3 = .ok (.invokestatic 90, 3) := by decide +kernel
theorem dX9_never_6 : decode cX9_never 6 = .ok (.ifCond .ne 10, 3) := by decide +kernel
theorem dX9_never_9 : decode cX9_never 9 = .ok (.aload_n 0, 1) := by decide +kernel
theorem dX9_never_10 : decode cX9_never 10 = .ok (.bipush (-2), 2) := by decide +kernel
theorem dX9_never_12 : decode cX9_never 12 = .ok (.invokevirtual 79, 3) := by decide +kernel
theorem dX9_never_15 : decode cX9_never 15 = .ok (.ireturn, 1) := by decide +kernel
theorem dX9_never_16 : decode cX9_never 16 = .ok (.iload_n 1, 1) := by decide +kernel
theorem dX9_never_17 : decode cX9_never 17 = .ok (.ifCond .ne 23, 3) := by decide +kernel
theorem dX9_never_20 : decode cX9_never 20 = .ok (.iconst 1, 1) := by decide +kernel
theorem dX9_never_21 : decode cX9_never 21 = .ok (.aload_n 0, 1) := by decide +kernel
theorem dX9_never_22 : decode cX9_never 22 = .ok (.getfield 58, 3) := by decide +kernel
theorem dX9_never_25 : decode cX9_never 25 = .ok (.ishl, 1) := by decide +kernel
theorem dX9_never_26 : decode cX9_never 26 = .ok (.iconst 1, 1) := by decide +kernel
theorem dX9_never_27 : decode cX9_never 27 = .ok (.isub, 1) := by decide +kernel
theorem dX9_never_28 : decode cX9_never 28 = .ok (.aload_n 0, 1) := by decide +kernel
theorem dX9_never_29 : decode cX9_never 29 = .ok (.bipush 60, 2) := by decide +kernel
theorem dX9_never_31 : decode cX9_never 31 = .ok (.invokevirtual 229, 3) := by decide +kernel
theorem dX9_never_34 : decode cX9_never 34 = .ok (.iconst (-1), 1) := by decide +kernel
theorem dX9_never_35 : decode cX9_never 35 = .ok (.ixor, 1) := by decide +kernel
theorem dX9_never_36 : decode cX9_never 36 = .ok (.iand, 1) := by decide +kernel
theorem dX9_never_37 : decode cX9_never 37 = .ok (.goto 7, 3) := by decide +kernel
theorem dX9_never_40 : decode cX9_never 40 = .ok (.aload_n 0, 1) := by decide +kernel
theorem dX9_never_41 : decode cX9_never 41 = .ok (.invokevirtual 241, 3) := by decide +kernel
theorem dX9_never_44 : decode cX9_never 44 = .ok (.ireturn, 1) := by decide +kernel
theorem dX9_isOpenedBy_0 : decode cX9_isOpenedBy 0 = .ok (.aload_n 0, 1) := by decide +kernel
theorem dX9_isOpenedBy_1 : decode cX9_isOpenedBy 1 = .ok (.invokevirtual 217, 3) := by decide +kernel
theorem dX9_isOpenedBy_4 : decode cX9_isOpenedBy 4 = .ok (.aload_n 0, 1) := by decide +kernel
theorem dX9_isOpenedBy_5 : decode cX9_isOpenedBy 5 = .ok (.invokevirtual 202, 3) := by decide +kernel
theorem dX9_isOpenedBy_8 : decode cX9_isOpenedBy 8 = .ok (.aload_n 0, 1) := by decide +kernel
theorem dX9_isOpenedBy_9 : decode cX9_isOpenedBy 9 = .ok (.getfield 31, 3) := by decide +kernel
theorem dX9_isOpenedBy_12 : decode cX9_isOpenedBy 12 = .ok (.iload_n 3, 1) := by decide +kernel
theorem dX9_isOpenedBy_13 : decode cX9_isOpenedBy 13 = .ok (.iaload, 1) := by decide +kernel
theorem dX9_isOpenedBy_14 : decode cX9_isOpenedBy 14 = .ok (.iconst 1, 1) := by decide +kernel
theorem dX9_isOpenedBy_15 : decode cX9_isOpenedBy 15 = .ok (.if_icmp .ne 36, 3) := by decide +kernel
theorem dX9_isOpenedBy_18 : decode cX9_isOpenedBy 18 = .ok (.aload_n 0, 1) := by decide +kernel
theorem dX9_isOpenedBy_19 : decode cX9_isOpenedBy 19 = .ok (.getfield 49, 3) := by decide +kernel
theorem dX9_isOpenedBy_22 : decode cX9_isOpenedBy 22 = .ok (.iload_n 3, 1) := by decide +kernel
theorem dX9_isOpenedBy_23 : decode cX9_isOpenedBy 23 = .ok (.iaload, 1) := by decide +kernel
theorem dX9_isOpenedBy_24 : decode cX9_isOpenedBy 24 = .ok (.iload_n 1, 1) := by decide +kernel
theorem dX9_isOpenedBy_25 : decode cX9_isOpenedBy 25 = .ok (.iload_n 2, 1) := by decide +kernel
theorem dX9_isOpenedBy_26 : decode cX9_isOpenedBy 26 = .ok (.if_icmp .ge 12, 3) := by decide +kernel
theorem dX9_isOpenedBy_29 : decode cX9_isOpenedBy 29 = .ok (.bipush 10, 2) := by decide +kernel
theorem dX9_isOpenedBy_31 : decode cX9_isOpenedBy 31 = .ok (.iload_n 1, 1) := by decide +kernel
theorem dX9_isOpenedBy_32 : decode cX9_isOpenedBy 32 = .ok (.imul, 1) := by decide +kernel
theorem dX9_isOpenedBy_33 : decode cX9_isOpenedBy 33 = .ok (.iload_n 2, 1) := by decide +kernel
theorem dX9_isOpenedBy_34 : decode cX9_isOpenedBy 34 = .ok (.iadd, 1) := by decide +kernel
theorem dX9_isOpenedBy_35 : decode cX9_isOpenedBy 35 = .ok (.goto 9, 3) := by decide +kernel
theorem dX9_isOpenedBy_38 : decode cX9_isOpenedBy 38 = .ok (.bipush 10, 2) := by decide +kernel
theorem dX9_isOpenedBy_40 : decode cX9_isOpenedBy 40 = .ok (.iload_n 2, 1) := by decide +kernel
theorem dX9_isOpenedBy_41 : decode cX9_isOpenedBy 41 = .ok (.imul, 1) := by decide +kernel
theorem dX9_isOpenedBy_42 : decode cX9_isOpenedBy 42 = .ok (.iload_n 1, 1) := by decide +kernel
theorem dX9_isOpenedBy_43 : decode cX9_isOpenedBy 43 = .ok (.iadd, 1) := by decide +kernel
theorem dX9_isOpenedBy_44 : decode cX9_isOpenedBy 44 = .ok (.if_icmp .ne 7, 3) := by decide +kernel
theorem dX9_isOpenedBy_47 : decode cX9_isOpenedBy 47 = .ok (.iconst 1, 1) := by decide +kernel
theorem dX9_isOpenedBy_48 : decode cX9_isOpenedBy 48 = .ok (.goto 4, 3) := by decide +kernel
theorem dX9_isOpenedBy_51 : decode cX9_isOpenedBy 51 = .ok (.iconst 0, 1) := by decide +kernel
theorem dX9_isOpenedBy_52 : decode cX9_isOpenedBy 52 = .ok (.istore 4, 2) := by decide +kernel
theorem dX9_isOpenedBy_54 : decode cX9_isOpenedBy 54 = .ok (.aload_n 0, 1) := by decide +kernel
theorem dX9_isOpenedBy_55 : decode cX9_isOpenedBy 55 = .ok (.invokevirtual 220, 3) := by decide +kernel
theorem dX9_isOpenedBy_58 : decode cX9_isOpenedBy 58 = .ok (.iload 4, 2) := by decide +kernel
theorem dX9_isOpenedBy_60 : decode cX9_isOpenedBy 60 = .ok (.ireturn, 1) := by decide +kernel
theorem dX9_insult_0 : decode cX9_insult 0 = .ok (.aload_n 0, 1) := by decide +kernel
theorem dX9_insult_1 : decode cX9_insult 1 = .ok (.iload_n 1, 1) := by decide +kernel
theorem dX9_insult_2 : decode cX9_insult 2 = .ok (.iload_n 2, 1) := by decide +kernel
theorem dX9_insult_3 : decode cX9_insult 3 = .ok (.invokevirtual 125, 3) := by decide +kernel
theorem dX9_insult_6 : decode cX9_insult 6 = .ok (.ifCond .eq 11, 3) := by decide +kernel
theorem dX9_insult_9 : decode cX9_insult 9 = .ok (.aload_n 0, 1) := by decide +kernel
theorem dX9_insult_10 : decode cX9_insult 10 = .ok (.iload_n 3, 1) := by decide +kernel
theorem dX9_insult_11 : decode cX9_insult 11 = .ok (.invokevirtual 134, 3) := by decide +kernel
theorem dX9_insult_14 : decode cX9_insult 14 = .ok (.ifCond .ne 7, 3) := by decide +kernel
theorem dX9_insult_17 : decode cX9_insult 17 = .ok (.iconst (-1), 1) := by decide +kernel
theorem dX9_insult_18 : decode cX9_insult 18 = .ok (.goto 19, 3) := by decide +kernel
theorem dX9_insult_21 : decode cX9_insult 21 = .ok (.aload_n 0, 1) := by decide +kernel
theorem dX9_insult_22 : decode cX9_insult 22 = .ok (.getfield 31, 3) := by decide +kernel
theorem dX9_insult_25 : decode cX9_insult 25 = .ok (.iload_n 3, 1) := by decide +kernel
theorem dX9_insult_26 : decode cX9_insult 26 = .ok (.iaload, 1) := by decide +kernel
theorem dX9_insult_27 : decode cX9_insult 27 = .ok (.iconst 1, 1) := by decide +kernel
theorem dX9_insult_28 : decode cX9_insult 28 = .ok (.if_icmp .ne 8, 3) := by decide +kernel
theorem dX9_insult_31 : decode cX9_insult 31 = .ok (.bipush (-3), 2) := by decide +kernel
theorem dX9_insult_33 : decode cX9_insult 33 = .ok (.goto 4, 3) := by decide +kernel
theorem dX9_insult_36 : decode cX9_insult 36 = .ok (.iconst 0, 1) := by decide +kernel
theorem dX9_insult_37 : decode cX9_insult 37 = .ok (.istore 4, 2) := by decide +kernel
theorem dX9_insult_39 : decode cX9_insult 39 = .ok (.iload 4, 2) := by decide +kernel
theorem dX9_insult_41 : decode cX9_insult 41 = .ok (.ifCond .eq 10, 3) := by decide +kernel
theorem dX9_insult_44 : decode cX9_insult 44 = .ok (.aload_n 0, 1) := by decide +kernel
theorem dX9_insult_45 : decode cX9_insult 45 = .ok (.iload 4, 2) := by decide +kernel
theorem dX9_insult_47 : decode cX9_insult 47 = .ok (.invokevirtual 79, 3) := by decide +kernel
theorem dX9_insult_50 : decode cX9_insult 50 = .ok (.ireturn, 1) := by decide +kernel
theorem dX9_insult_51 : decode cX9_insult 51 = .ok (.aload_n 0, 1) := by decide +kernel
theorem dX9_insult_52 : decode cX9_insult 52 = .ok (.iload_n 1, 1) := by decide +kernel
theorem dX9_insult_53 : decode cX9_insult 53 = .ok (.iload_n 2, 1) := by decide +kernel
theorem dX9_insult_54 : decode cX9_insult 54 = .ok (.invokevirtual 180, 3) := by decide +kernel
theorem dX9_insult_57 : decode cX9_insult 57 = .ok (.istore 5, 2) := by decide +kernel
theorem dX9_insult_59 : decode cX9_insult 59 = .ok (.bipush (-9), 2) := by decide +kernel
theorem dX9_insult_61 : decode cX9_insult 61 = .ok (.istore 6, 2) := by decide +kernel
theorem dX9_insult_63 : decode cX9_insult 63 = .ok (.iconst 0, 1) := by decide +kernel
theorem dX9_insult_64 : decode cX9_insult 64 = .ok (.istore 7, 2) := by decide +kernel
theorem dX9_insult_66 : decode cX9_insult 66 = .ok (.iload 7, 2) := by decide +kernel
theorem dX9_insult_68 : decode cX9_insult 68 = .ok (.bipush 99, 2) := by decide +kernel
theorem dX9_insult_70 : decode cX9_insult 70 = .ok (.if_icmp .gt 50, 3) := by decide +kernel
theorem dX9_insult_73 : decode cX9_insult 73 = .ok (.iload 6, 2) := by decide +kernel
theorem dX9_insult_75 : decode cX9_insult 75 = .ok (.ifCond .ge 45, 3) := by decide +kernel
theorem dX9_insult_78 : decode cX9_insult 78 = .ok (.aload_n 0, 1) := by decide +kernel
theorem dX9_insult_79 : decode cX9_insult 79 = .ok (.iload_n 1, 1) := by decide +kernel
theorem dX9_insult_80 : decode cX9_insult 80 = .ok (.iload_n 2, 1) := by decide +kernel
theorem dX9_insult_81 : decode cX9_insult 81 = .ok (.iload 5, 2) := by decide +kernel
theorem dX9_insult_83 : decode cX9_insult 83 = .ok (.iload 7, 2) := by decide +kernel
theorem dX9_insult_85 : decode cX9_insult 85 = .ok (.iadd, 1) := by decide +kernel
theorem dX9_insult_86 : decode cX9_insult 86 = .ok (.iconst 0, 1) := by decide +kernel
theorem dX9_insult_87 : decode cX9_insult 87 = .ok (.bipush 99, 2) := by decide +kernel
theorem dX9_insult_89 : decode cX9_insult 89 = .ok (.invokestatic 187, 3) := by decide +kernel
theorem dX9_insult_92 : decode cX9_insult 92 = .ok (.invokevirtual 128, 3) := by decide +kernel
theorem dX9_insult_95 : decode cX9_insult 95 = .ok (.aload_n 0, 1) := by decide +kernel
theorem dX9_insult_96 : decode cX9_insult 96 = .ok (.iload_n 1, 1) := by decide +kernel
theorem dX9_insult_97 : decode cX9_insult 97 = .ok (.iload_n 2, 1) := by decide +kernel
theorem dX9_insult_98 : decode cX9_insult 98 = .ok (.iload_n 3, 1) := by decide +kernel
theorem dX9_insult_99 : decode cX9_insult 99 = .ok (.invokevirtual 244, 3) := by decide +kernel
theorem dX9_insult_102 : decode cX9_insult 102 = .ok (.ifCond .eq 8, 3) := by decide +kernel
theorem dX9_insult_105 : decode cX9_insult 105 = .ok (.iload 7, 2) := by decide +kernel
theorem dX9_insult_107 : decode cX9_insult 107 = .ok (.goto 5, 3) := by decide +kernel
theorem dX9_insult_110 : decode cX9_insult 110 = .ok (.bipush (-9), 2) := by decide +kernel
theorem dX9_insult_112 : decode cX9_insult 112 = .ok (.istore 6, 2) := by decide +kernel
theorem dX9_insult_114 : decode cX9_insult 114 = .ok (.iinc 7 1, 3) := by decide +kernel
theorem dX9_insult_117 : decode cX9_insult 117 = .ok (.goto (-51), 3) := by decide +kernel
theorem dX9_insult_120 : decode cX9_insult 120 = .ok (.aload_n 0, 1) := by decide +kernel
theorem dX9_insult_121 : decode cX9_insult 121 = .ok (.iload_n 1, 1) := by decide +kernel
theorem dX9_insult_122 : decode cX9_insult 122 = .ok (.iload_n 2, 1) := by decide +kernel
theorem dX9_insult_123 : decode cX9_insult 123 = .ok (.iload 5, 2) := by decide +kernel
theorem dX9_insult_125 : decode cX9_insult 125 = .ok (.invokevirtual 128, 3) := by decide +kernel
theorem dX9_insult_128 : decode cX9_insult 128 = .ok (.iload 6, 2) := by decide +kernel
theorem dX9_insult_130 : decode cX9_insult 130 = .ok (.ireturn, 1) := by decide +kernel
theorem dX9_manyAt_0 : decode cX9_manyAt 0 = .ok (.aload_n 0, 1) := by decide +kernel
theorem dX9_manyAt_1 : decode cX9_manyAt 1 = .ok (.getfield 19, 3) := by decide +kernel
theorem dX9_manyAt_4 : decode cX9_manyAt 4 = .ok (.iload_n 1, 1) := by decide +kernel
theorem dX9_manyAt_5 : decode cX9_manyAt 5 = .ok (.iaload, 1) := by decide +kernel
theorem dX9_manyAt_6 : decode cX9_manyAt 6 = .ok (.istore 4, 2) := by decide +kernel
theorem dX9_manyAt_8 : decode cX9_manyAt 8 = .ok (.aload_n 0, 1) := by decide +kernel
theorem dX9_manyAt_9 : decode cX9_manyAt 9 = .ok (.getfield 19, 3) := by decide +kernel
theorem dX9_manyAt_12 : decode cX9_manyAt 12 = .ok (.iload_n 1, 1) := by decide +kernel
theorem dX9_manyAt_13 : decode cX9_manyAt 13 = .ok (.iload_n 2, 1) := by decide +kernel
theorem dX9_manyAt_14 : decode cX9_manyAt 14 = .ok (.iastore, 1) := by decide +kernel
theorem dX9_manyAt_15 : decode cX9_manyAt 15 = .ok (.aload_n 0, 1) := by decide +kernel
theorem dX9_manyAt_16 : decode cX9_manyAt 16 = .ok (.iload_n 3, 1) := by decide +kernel
theorem dX9_manyAt_17 : decode cX9_manyAt 17 = .ok (.invokevirtual 229, 3) := by decide +kernel
theorem dX9_manyAt_20 : decode cX9_manyAt 20 = .ok (.invokestatic 214, 3) := by decide +kernel
theorem dX9_manyAt_23 : decode cX9_manyAt 23 = .ok (.istore 5, 2) := by decide +kernel
theorem dX9_manyAt_25 : decode cX9_manyAt 25 = .ok (.aload_n 0, 1) := by decide +kernel
theorem dX9_manyAt_26 : decode cX9_manyAt 26 = .ok (.getfield 19, 3) := by decide +kernel
theorem dX9_manyAt_29 : decode cX9_manyAt 29 = .ok (.iload_n 1, 1) := by decide +kernel
theorem dX9_manyAt_30 : decode cX9_manyAt 30 = .ok (.iload 4, 2) := by decide +kernel
theorem dX9_manyAt_32 : decode cX9_manyAt 32 = .ok (.iastore, 1) := by decide +kernel
theorem dX9_manyAt_33 : decode cX9_manyAt 33 = .ok (.iload 5, 2) := by decide +kernel
theorem dX9_manyAt_35 : decode cX9_manyAt 35 = .ok (.ireturn, 1) := by decide +kernel
theorem dX9_send_0 : decode cX9_send 0 = .ok (.iload_n 1, 1) := by decide +kernel
theorem dX9_send_1 : decode cX9_send 1 = .ok (.invokestatic 223, 3) := by decide +kernel
theorem dX9_send_4 : decode cX9_send 4 = .ok (.istore_n 2, 1) := by decide +kernel
theorem dX9_send_5 : decode cX9_send 5 = .ok (.iload_n 2, 1) := by decide +kernel
theorem dX9_send_6 : decode cX9_send 6 = .ok (.ifCond .eq 9, 3) := by decide +kernel
theorem dX9_send_9 : decode cX9_send 9 = .ok (.aload_n 0, 1) := by decide +kernel
theorem dX9_send_10 : decode cX9_send 10 = .ok (.iload_n 2, 1) := by decide +kernel
theorem dX9_send_11 : decode cX9_send 11 = .ok (.invokevirtual 79, 3) := by decide +kernel
