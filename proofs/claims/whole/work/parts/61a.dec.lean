theorem dX0_power_0 : decode cX0_power 0 = .ok (.lconst 1, 1) := by decide +kernel
theorem dX0_power_1 : decode cX0_power 1 = .ok (.lstore_n 2, 1) := by decide +kernel
theorem dX0_power_2 : decode cX0_power 2 = .ok (.iconst 0, 1) := by decide +kernel
theorem dX0_power_3 : decode cX0_power 3 = .ok (.istore 4, 2) := by decide +kernel
theorem dX0_power_5 : decode cX0_power 5 = .ok (.iload 4, 2) := by decide +kernel
theorem dX0_power_7 : decode cX0_power 7 = .ok (.iload_n 1, 1) := by decide +kernel
theorem dX0_power_8 : decode cX0_power 8 = .ok (.if_icmp .ge 14, 3) := by decide +kernel
theorem dX0_power_11 : decode cX0_power 11 = .ok (.lload_n 2, 1) := by decide +kernel
theorem dX0_power_12 : decode cX0_power 12 = .ok (.iload_n 0, 1) := by decide +kernel
theorem dX0_power_13 : decode cX0_power 13 = .ok (.i2l, 1) := by decide +kernel
theorem dX0_power_14 : decode cX0_power 14 = .ok (.lmul, 1) := by decide +kernel
theorem dX0_power_15 : decode cX0_power 15 = .ok (.lstore_n 2, 1) := by decide +kernel
theorem dX0_power_16 : decode cX0_power 16 = .ok (.iinc 4 1, 3) := by decide +kernel
theorem dX0_power_19 : decode cX0_power 19 = .ok (.goto (-14), 3) := by decide +kernel
theorem dX0_power_22 : decode cX0_power 22 = .ok (.lload_n 2, 1) := by decide +kernel
theorem dX0_power_23 : decode cX0_power 23 = .ok (.lreturn, 1) := by decide +kernel
theorem dX0_ways_0 : decode cX0_ways 0 = .ok (.lconst 0, 1) := by decide +kernel
theorem dX0_ways_1 : decode cX0_ways 1 = .ok (.lstore_n 3, 1) := by decide +kernel
theorem dX0_ways_2 : decode cX0_ways 2 = .ok (.iconst 0, 1) := by decide +kernel
theorem dX0_ways_3 : decode cX0_ways 3 = .ok (.istore 5, 2) := by decide +kernel
theorem dX0_ways_5 : decode cX0_ways 5 = .ok (.iload 5, 2) := by decide +kernel
theorem dX0_ways_7 : decode cX0_ways 7 = .ok (.iconst 1, 1) := by decide +kernel
theorem dX0_ways_8 : decode cX0_ways 8 = .ok (.iload_n 0, 1) := by decide +kernel
theorem dX0_ways_9 : decode cX0_ways 9 = .ok (.ishl, 1) := by decide +kernel
theorem dX0_ways_10 : decode cX0_ways 10 = .ok (.if_icmp .ge 34, 3) := by decide +kernel
theorem dX0_ways_13 : decode cX0_ways 13 = .ok (.iload 5, 2) := by decide +kernel
theorem dX0_ways_15 : decode cX0_ways 15 = .ok (.invokestatic 7, 3) := by decide +kernel
theorem dX0_ways_18 : decode cX0_ways 18 = .ok (.iload_n 1, 1) := by decide +kernel
theorem dX0_ways_19 : decode cX0_ways 19 = .ok (.if_icmp .lt 19, 3) := by decide +kernel
theorem dX0_ways_22 : decode cX0_ways 22 = .ok (.lload_n 3, 1) := by decide +kernel
theorem dX0_ways_23 : decode cX0_ways 23 = .ok (.iload_n 2, 1) := by decide +kernel
theorem dX0_ways_24 : decode cX0_ways 24 = .ok (.iconst 1, 1) := by decide +kernel
theorem dX0_ways_25 : decode cX0_ways 25 = .ok (.isub, 1) := by decide +kernel
theorem dX0_ways_26 : decode cX0_ways 26 = .ok (.iload_n 0, 1) := by decide +kernel
theorem dX0_ways_27 : decode cX0_ways 27 = .ok (.iload 5, 2) := by decide +kernel
theorem dX0_ways_29 : decode cX0_ways 29 = .ok (.invokestatic 7, 3) := by decide +kernel
theorem dX0_ways_32 : decode cX0_ways 32 = .ok (.isub, 1) := by decide +kernel
theorem dX0_ways_33 : decode cX0_ways 33 = .ok (.invokestatic 13, 3) := by decide +kernel
theorem dX0_ways_36 : decode cX0_ways 36 = .ok (.ladd, 1) := by decide +kernel
theorem dX0_ways_37 : decode cX0_ways 37 = .ok (.lstore_n 3, 1) := by decide +kernel
theorem dX0_ways_38 : decode cX0_ways 38 = .ok (.iinc 5 1, 3) := by decide +kernel
theorem dX0_ways_41 : decode cX0_ways 41 = .ok (.goto (-36), 3) := by decide +kernel
theorem dX0_ways_44 : decode cX0_ways 44 = .ok (.lload_n 3, 1) := by decide +kernel
theorem dX0_ways_45 : decode cX0_ways 45 = .ok (.lreturn, 1) := by decide +kernel
theorem dX0_part_0 : decode cX0_part 0 = .ok (.lload_n 0, 1) := by decide +kernel
theorem dX0_part_1 : decode cX0_part 1 = .ok (.lload_n 2, 1) := by decide +kernel
theorem dX0_part_2 : decode cX0_part 2 = .ok (.invokestatic 19, 3) := by decide +kernel
theorem dX0_part_5 : decode cX0_part 5 = .ok (.lstore 5, 2) := by decide +kernel
theorem dX0_part_7 : decode cX0_part 7 = .ok (.iload 4, 2) := by decide +kernel
theorem dX0_part_9 : decode cX0_part 9 = .ok (.ifCond .ne 7, 3) := by decide +kernel
theorem dX0_part_12 : decode cX0_part 12 = .ok (.lload_n 0, 1) := by decide +kernel
theorem dX0_part_13 : decode cX0_part 13 = .ok (.goto 4, 3) := by decide +kernel
theorem dX0_part_16 : decode cX0_part 16 = .ok (.lload_n 2, 1) := by decide +kernel
theorem dX0_part_17 : decode cX0_part 17 = .ok (.lstore 7, 2) := by decide +kernel
theorem dX0_part_19 : decode cX0_part 19 = .ok (.lload 5, 2) := by decide +kernel
theorem dX0_part_21 : decode cX0_part 21 = .ok (.lconst 0, 1) := by decide +kernel
theorem dX0_part_22 : decode cX0_part 22 = .ok (.lcmp, 1) := by decide +kernel
theorem dX0_part_23 : decode cX0_part 23 = .ok (.ifCond .le 11, 3) := by decide +kernel
theorem dX0_part_26 : decode cX0_part 26 = .ok (.lload 7, 2) := by decide +kernel
theorem dX0_part_28 : decode cX0_part 28 = .ok (.lload 5, 2) := by decide +kernel
theorem dX0_part_30 : decode cX0_part 30 = .ok (.ldiv, 1) := by decide +kernel
theorem dX0_part_31 : decode cX0_part 31 = .ok (.goto 5, 3) := by decide +kernel
theorem dX0_part_34 : decode cX0_part 34 = .ok (.lload 7, 2) := by decide +kernel
theorem dX0_part_36 : decode cX0_part 36 = .ok (.lreturn, 1) := by decide +kernel
theorem dX0_commonDivisor_0 : decode cX0_commonDivisor 0 = .ok (.lload_n 0, 1) := by decide +kernel
theorem dX0_commonDivisor_1 : decode cX0_commonDivisor 1 = .ok (.lstore 4, 2) := by decide +kernel
theorem dX0_commonDivisor_3 : decode cX0_commonDivisor 3 = .ok (.lload_n 2, 1) := by decide +kernel
theorem dX0_commonDivisor_4 : decode cX0_commonDivisor 4 = .ok (.lstore 6, 2) := by decide +kernel
theorem dX0_commonDivisor_6 : decode cX0_commonDivisor 6 = .ok (.iconst 0, 1) := by decide +kernel
theorem dX0_commonDivisor_7 : decode cX0_commonDivisor 7 = .ok (.istore 8, 2) := by decide +kernel
theorem dX0_commonDivisor_9 : decode cX0_commonDivisor 9 = .ok (.iload 8, 2) := by decide +kernel
theorem dX0_commonDivisor_11 : decode cX0_commonDivisor 11 = .ok (.bipush 100, 2) := by decide +kernel
theorem dX0_commonDivisor_13 : decode cX0_commonDivisor 13 = .ok (.if_icmp .ge 31, 3) := by decide +kernel
theorem dX0_commonDivisor_16 : decode cX0_commonDivisor 16 = .ok (.lload 6, 2) := by decide +kernel
theorem dX0_commonDivisor_18 : decode cX0_commonDivisor 18 = .ok (.lconst 0, 1) := by decide +kernel
theorem dX0_commonDivisor_19 : decode cX0_commonDivisor 19 = .ok (.lcmp, 1) := by decide +kernel
theorem dX0_commonDivisor_20 : decode cX0_commonDivisor 20 = .ok (.ifCond .eq 24, 3) := by decide +kernel
theorem dX0_commonDivisor_23 : decode cX0_commonDivisor 23 = .ok (.lload 4, 2) := by decide +kernel
theorem dX0_commonDivisor_25 : decode cX0_commonDivisor 25 = .ok (.lload 6, 2) := by decide +kernel
theorem dX0_commonDivisor_27 : decode cX0_commonDivisor 27 = .ok (.lrem, 1) := by decide +kernel
theorem dX0_commonDivisor_28 : decode cX0_commonDivisor 28 = .ok (.lstore 9, 2) := by decide +kernel
theorem dX0_commonDivisor_30 : decode cX0_commonDivisor 30 = .ok (.lload 6, 2) := by decide +kernel
theorem dX0_commonDivisor_32 : decode cX0_commonDivisor 32 = .ok (.lstore 4, 2) := by decide +kernel
theorem dX0_commonDivisor_34 : decode cX0_commonDivisor 34 = .ok (.lload 9, 2) := by decide +kernel
theorem dX0_commonDivisor_36 : decode cX0_commonDivisor 36 = .ok (.lstore 6, 2) := by decide +kernel
theorem dX0_commonDivisor_38 : decode cX0_commonDivisor 38 = .ok (.iinc 8 1, 3) := by decide +kernel
theorem dX0_commonDivisor_41 : decode cX0_commonDivisor 41 = .ok (.goto (-32), 3) := by decide +kernel
theorem dX0_commonDivisor_44 : decode cX0_commonDivisor 44 = .ok (.lload 4, 2) := by decide +kernel
theorem dX0_commonDivisor_46 : decode cX0_commonDivisor 46 = .ok (.lreturn, 1) := by decide +kernel
theorem dX1_init_0 : decode cX1_init 0 = .ok (.aload_n 0, 1) := by decide +kernel
theorem dX1_init_1 : decode cX1_init 1 = .ok (.invokespecial 3, 3) := by decide +kernel
theorem dX1_init_4 : decode cX1_init 4 = .ok (.aload_n 0, 1) := by decide +kernel
theorem dX1_init_5 : decode cX1_init 5 = .ok (.bipush 6, 2) := by decide +kernel
theorem dX1_init_7 : decode cX1_init 7 = .ok (.newarray .int, 2) := by decide +kernel
theorem dX1_init_9 : decode cX1_init 9 = .ok (.putfield 9, 3) := by decide +kernel
theorem dX1_init_12 : decode cX1_init 12 = .ok (.aload_n 0, 1) := by decide +kernel
theorem dX1_init_13 : decode cX1_init 13 = .ok (.bipush 6, 2) := by decide +kernel
theorem dX1_init_15 : decode cX1_init 15 = .ok (.newarray .int, 2) := by decide +kernel
theorem dX1_init_17 : decode cX1_init 17 = .ok (.putfield 15, 3) := by decide +kernel
theorem dX1_init_20 : decode cX1_init 20 = .ok (.aload_n 0, 1) := by decide +kernel
theorem dX1_init_21 : decode cX1_init 21 = .ok (.bipush 6, 2) := by decide +kernel
theorem dX1_init_23 : decode cX1_init 23 = .ok (.newarray .int, 2) := by decide +kernel
theorem dX1_init_25 : decode cX1_init 25 = .ok (.putfield 18, 3) := by decide +kernel
theorem dX1_init_28 : decode cX1_init 28 = .ok (.aload_n 0, 1) := by decide +kernel
theorem dX1_init_29 : decode cX1_init 29 = .ok (.bipush 36, 2) := by decide +kernel
theorem dX1_init_31 : decode cX1_init 31 = .ok (.newarray .int, 2) := by decide +kernel
theorem dX1_init_33 : decode cX1_init 33 = .ok (.putfield 21, 3) := by decide +kernel
theorem dX1_init_36 : decode cX1_init 36 = .ok (.aload_n 0, 1) := by decide +kernel
theorem dX1_init_37 : decode cX1_init 37 = .ok (.bipush 6, 2) := by decide +kernel
theorem dX1_init_39 : decode cX1_init 39 = .ok (.newarray .int, 2) := by decide +kernel
theorem dX1_init_41 : decode cX1_init 41 = .ok (.putfield 24, 3) := by decide +kernel
theorem dX1_init_44 : decode cX1_init 44 = .ok (.aload_n 0, 1) := by decide +kernel
theorem dX1_init_45 : decode cX1_init 45 = .ok (.bipush 6, 2) := by decide +kernel
theorem dX1_init_47 : decode cX1_init 47 = .ok (.newarray .int, 2) := by decide +kernel
theorem dX1_init_49 : decode cX1_init 49 = .ok (.putfield 27, 3) := by decide +kernel
theorem dX1_init_52 : decode cX1_init 52 = .ok (.aload_n 0, 1) := by decide +kernel
theorem dX1_init_53 : decode cX1_init 53 = .ok (.bipush 6, 2) := by decide +kernel
theorem dX1_init_55 : decode cX1_init 55 = .ok (.newarray .int, 2) := by decide +kernel
theorem dX1_init_57 : decode cX1_init 57 = .ok (.putfield 30, 3) := by decide +kernel
theorem dX1_init_60 : decode cX1_init 60 = .ok (.return_, 1) := by decide +kernel
theorem dX1_become_0 : decode cX1_become 0 = .ok (.aload_n 1, 1) := by decide +kernel
theorem dX1_become_1 : decode cX1_become 1 = .ok (.ifnonnull 4, 3) := by decide +kernel
theorem dX1_become_4 : decode cX1_become 4 = .ok (.return_, 1) := by decide +kernel
theorem dX1_become_5 : decode cX1_become 5 = .ok (.aload_n 1, 1) := by decide +kernel
theorem dX1_become_6 : decode cX1_become 6 = .ok (.getfield 9, 3) := by decide +kernel
theorem dX1_become_9 : decode cX1_become 9 = .ok (.aload_n 0, 1) := by decide +kernel
theorem dX1_become_10 : decode cX1_become 10 = .ok (.getfield 9, 3) := by decide +kernel
theorem dX1_become_13 : decode cX1_become 13 = .ok (.invokestatic 33, 3) := by decide +kernel
theorem dX1_become_16 : decode cX1_become 16 = .ok (.aload_n 1, 1) := by decide +kernel
theorem dX1_become_17 : decode cX1_become 17 = .ok (.getfield 15, 3) := by decide +kernel
theorem dX1_become_20 : decode cX1_become 20 = .ok (.aload_n 0, 1) := by decide +kernel
theorem dX1_become_21 : decode cX1_become 21 = .ok (.getfield 15, 3) := by decide +kernel
theorem dX1_become_24 : decode cX1_become 24 = .ok (.invokestatic 33, 3) := by decide +kernel
theorem dX1_become_27 : decode cX1_become 27 = .ok (.aload_n 1, 1) := by decide +kernel
theorem dX1_become_28 : decode cX1_become 28 = .ok (.getfield 18, 3) := by decide +kernel
theorem dX1_become_31 : decode cX1_become 31 = .ok (.aload_n 0, 1) := by decide +kernel
theorem dX1_become_32 : decode cX1_become 32 = .ok (.getfield 18, 3) := by decide +kernel
theorem dX1_become_35 : decode cX1_become 35 = .ok (.invokestatic 33, 3) := by decide +kernel
theorem dX1_become_38 : decode cX1_become 38 = .ok (.aload_n 1, 1) := by decide +kernel
theorem dX1_become_39 : decode cX1_become 39 = .ok (.getfield 21, 3) := by decide +kernel
theorem dX1_become_42 : decode cX1_become 42 = .ok (.aload_n 0, 1) := by decide +kernel
theorem dX1_become_43 : decode cX1_become 43 = .ok (.getfield 21, 3) := by decide +kernel
theorem dX1_become_46 : decode cX1_become 46 = .ok (.invokestatic 33, 3) := by decide +kernel
theorem dX1_become_49 : decode cX1_become 49 = .ok (.aload_n 1, 1) := by decide +kernel
theorem dX1_become_50 : decode cX1_become 50 = .ok (.getfield 24, 3) := by decide +kernel
theorem dX1_become_53 : decode cX1_become 53 = .ok (.aload_n 0, 1) := by decide +kernel
theorem dX1_become_54 : decode cX1_become 54 = .ok (.getfield 24, 3) := by decide +kernel
theorem dX1_become_57 : decode cX1_become 57 = .ok (.invokestatic 33, 3) := by decide +kernel
theorem dX1_become_60 : decode cX1_become 60 = .ok (.aload_n 1, 1) := by decide +kernel
theorem dX1_become_61 : decode cX1_become 61 = .ok (.getfield 27, 3) := by decide +kernel
theorem dX1_become_64 : decode cX1_become 64 = .ok (.aload_n 0, 1) := by decide +kernel
theorem dX1_become_65 : decode cX1_become 65 = .ok (.getfield 27, 3) := by decide +kernel
theorem dX1_become_68 : decode cX1_become 68 = .ok (.invokestatic 33, 3) := by decide +kernel
theorem dX1_become_71 : decode cX1_become 71 = .ok (.aload_n 0, 1) := by decide +kernel
theorem dX1_become_72 : decode cX1_become 72 = .ok (.getfield 30, 3) := by decide +kernel
theorem dX1_become_75 : decode cX1_become 75 = .ok (.bipush (-9), 2) := by decide +kernel
theorem dX1_become_77 : decode cX1_become 77 = .ok (.invokestatic 37, 3) := by decide +kernel
theorem dX1_become_80 : decode cX1_become 80 = .ok (.aload_n 0, 1) := by decide +kernel
theorem dX1_become_81 : decode cX1_become 81 = .ok (.aload_n 1, 1) := by decide +kernel
theorem dX1_become_82 : decode cX1_become 82 = .ok (.getfield 43, 3) := by decide +kernel
theorem dX1_become_85 : decode cX1_become 85 = .ok (.putfield 43, 3) := by decide +kernel
theorem dX1_become_88 : decode cX1_become 88 = .ok (.aload_n 0, 1) := by decide +kernel
theorem dX1_become_89 : decode cX1_become 89 = .ok (.aload_n 1, 1) := by decide +kernel
theorem dX1_become_90 : decode cX1_become 90 = .ok (.getfield 47, 3) := by decide +kernel
theorem dX1_become_93 : decode cX1_become 93 = .ok (.putfield 47, 3) := by decide +kernel
theorem dX1_become_96 : decode cX1_become 96 = .ok (.aload_n 0, 1) := by decide +kernel
theorem dX1_become_97 : decode cX1_become 97 = .ok (.aload_n 1, 1) := by decide +kernel
theorem dX1_become_98 : decode cX1_become 98 = .ok (.getfield 50, 3) := by decide +kernel
theorem dX1_become_101 : decode cX1_become 101 = .ok (.putfield 50, 3) := by decide +kernel
theorem dX1_become_104 : decode cX1_become 104 = .ok (.aload_n 0, 1) := by decide +kernel
theorem dX1_become_105 : decode cX1_become 105 = .ok (.aload_n 1, 1) := by decide +kernel
theorem dX1_become_106 : decode cX1_become 106 = .ok (.getfield 53, 3) := by decide +kernel
theorem dX1_become_109 : decode cX1_become 109 = .ok (.putfield 53, 3) := by decide +kernel
theorem dX1_become_112 : decode cX1_become 112 = .ok (.return_, 1) := by decide +kernel
theorem dX1_keeperCount_0 : decode cX1_keeperCount 0 = .ok (.aload_n 0, 1) := by decide +kernel
theorem dX1_keeperCount_1 : decode cX1_keeperCount 1 = .ok (.getfield 43, 3) := by decide +kernel
theorem dX1_keeperCount_4 : decode cX1_keeperCount 4 = .ok (.ireturn, 1) := by decide +kernel
theorem dX1_letterCount_0 : decode cX1_letterCount 0 = .ok (.aload_n 0, 1) := by decide +kernel
theorem dX1_letterCount_1 : decode cX1_letterCount 1 = .ok (.getfield 47, 3) := by decide +kernel
theorem dX1_letterCount_4 : decode cX1_letterCount 4 = .ok (.ireturn, 1) := by decide +kernel
theorem dX1_weekNow_0 : decode cX1_weekNow 0 = .ok (.aload_n 0, 1) := by decide +kernel
theorem dX1_weekNow_1 : decode cX1_weekNow 1 = .ok (.getfield 53, 3) := by decide +kernel
theorem dX1_weekNow_4 : decode cX1_weekNow 4 = .ok (.ireturn, 1) := by decide +kernel
theorem dX1_openBits_0 : decode cX1_openBits 0 = .ok (.aload_n 0, 1) := by decide +kernel
theorem dX1_openBits_1 : decode cX1_openBits 1 = .ok (.getfield 50, 3) := by decide +kernel
theorem dX1_openBits_4 : decode cX1_openBits 4 = .ok (.ireturn, 1) := by decide +kernel
theorem dX1_openCount_0 : decode cX1_openCount 0 = .ok (.aload_n 0, 1) := by decide +kernel
theorem dX1_openCount_1 : decode cX1_openCount 1 = .ok (.getfield 50, 3) := by decide +kernel
theorem dX1_openCount_4 : decode cX1_openCount 4 = .ok (.invokestatic 56, 3) := by decide +kernel
theorem dX1_openCount_7 : decode cX1_openCount 7 = .ok (.ireturn, 1) := by decide +kernel
theorem dX1_hasKeeper_0 : decode cX1_hasKeeper 0 = .ok (.iload_n 1, 1) := by decide +kernel
theorem dX1_hasKeeper_1 : decode cX1_hasKeeper 1 = .ok (.ifCond .lt 15, 3) := by decide +kernel
theorem dX1_hasKeeper_4 : decode cX1_hasKeeper 4 = .ok (.iload_n 1, 1) := by decide +kernel
theorem dX1_hasKeeper_5 : decode cX1_hasKeeper 5 = .ok (.aload_n 0, 1) := by decide +kernel
theorem dX1_hasKeeper_6 : decode cX1_hasKeeper 6 = .ok (.getfield 43, 3) := by decide +kernel
theorem dX1_hasKeeper_9 : decode cX1_hasKeeper 9 = .ok (.if_icmp .ge 7, 3) := by decide +kernel
theorem dX1_hasKeeper_12 : decode cX1_hasKeeper 12 = .ok (.iconst 1, 1) := by decide +kernel
theorem dX1_hasKeeper_13 : decode cX1_hasKeeper 13 = .ok (.goto 4, 3) := by decide +kernel
theorem dX1_hasKeeper_16 : decode cX1_hasKeeper 16 = .ok (.iconst 0, 1) := by decide +kernel
theorem dX1_hasKeeper_17 : decode cX1_hasKeeper 17 = .ok (.ireturn, 1) := by decide +kernel
theorem dX1_hasLetter_0 : decode cX1_hasLetter 0 = .ok (.iload_n 1, 1) := by decide +kernel
theorem dX1_hasLetter_1 : decode cX1_hasLetter 1 = .ok (.ifCond .lt 15, 3) := by decide +kernel
theorem dX1_hasLetter_4 : decode cX1_hasLetter 4 = .ok (.iload_n 1, 1) := by decide +kernel
theorem dX1_hasLetter_5 : decode cX1_hasLetter 5 = .ok (.aload_n 0, 1) := by decide +kernel
theorem dX1_hasLetter_6 : decode cX1_hasLetter 6 = .ok (.getfield 47, 3) := by decide +kernel
theorem dX1_hasLetter_9 : decode cX1_hasLetter 9 = .ok (.if_icmp .ge 7, 3) := by decide +kernel
theorem dX1_hasLetter_12 : decode cX1_hasLetter 12 = .ok (.iconst 1, 1) := by decide +kernel
theorem dX1_hasLetter_13 : decode cX1_hasLetter 13 = .ok (.goto 4, 3) := by decide +kernel
theorem dX1_hasLetter_16 : decode cX1_hasLetter 16 = .ok (.iconst 0, 1) := by decide +kernel
theorem dX1_hasLetter_17 : decode cX1_hasLetter 17 = .ok (.ireturn, 1) := by decide +kernel
theorem dX1_areTwo_0 : decode cX1_areTwo 0 = .ok (.aload_n 0, 1) := by decide +kernel
theorem dX1_areTwo_1 : decode cX1_areTwo 1 = .ok (.iload_n 1, 1) := by decide +kernel
theorem dX1_areTwo_2 : decode cX1_areTwo 2 = .ok (.invokevirtual 62, 3) := by decide +kernel
theorem dX1_areTwo_5 : decode cX1_areTwo 5 = .ok (.ifCond .eq 20, 3) := by decide +kernel
theorem dX1_areTwo_8 : decode cX1_areTwo 8 = .ok (.aload_n 0, 1) := by decide +kernel
theorem dX1_areTwo_9 : decode cX1_areTwo 9 = .ok (.iload_n 2, 1) := by decide +kernel
theorem dX1_areTwo_10 : decode cX1_areTwo 10 = .ok (.invokevirtual 62, 3) := by decide +kernel
theorem dX1_areTwo_13 : decode cX1_areTwo 13 = .ok (.ifCond .eq 12, 3) := by decide +kernel
theorem dX1_areTwo_16 : decode cX1_areTwo 16 = .ok (.iload_n 1, 1) := by decide +kernel
theorem dX1_areTwo_17 : decode cX1_areTwo 17 = .ok (.iload_n 2, 1) := by decide +kernel
theorem dX1_areTwo_18 : decode cX1_areTwo 18 = .ok (.if_icmp .eq 7, 3) := by decide +kernel
theorem dX1_areTwo_21 : decode cX1_areTwo 21 = .ok (.iconst 1, 1) := by decide +kernel
theorem dX1_areTwo_22 : decode cX1_areTwo 22 = .ok (.goto 4, 3) := by decide +kernel
theorem dX1_areTwo_25 : decode cX1_areTwo 25 = .ok (.iconst 0, 1) := by decide +kernel
theorem dX1_areTwo_26 : decode cX1_areTwo 26 = .ok (.ireturn, 1) := by decide +kernel
theorem dX1_areBothIn_0 : decode cX1_areBothIn 0 = .ok (.aload_n 0, 1) := by decide +kernel
theorem dX1_areBothIn_1 : decode cX1_areBothIn 1 = .ok (.getfield 18, 3) := by decide +kernel
theorem dX1_areBothIn_4 : decode cX1_areBothIn 4 = .ok (.iload_n 2, 1) := by decide +kernel
theorem dX1_areBothIn_5 : decode cX1_areBothIn 5 = .ok (.invokestatic 66, 3) := by decide +kernel
theorem dX1_areBothIn_8 : decode cX1_areBothIn 8 = .ok (.iload_n 1, 1) := by decide +kernel
theorem dX1_areBothIn_9 : decode cX1_areBothIn 9 = .ok (.if_icmp .ne 19, 3) := by decide +kernel
theorem dX1_areBothIn_12 : decode cX1_areBothIn 12 = .ok (.aload_n 0, 1) := by decide +kernel
theorem dX1_areBothIn_13 : decode cX1_areBothIn 13 = .ok (.getfield 18, 3) := by decide +kernel
theorem dX1_areBothIn_16 : decode cX1_areBothIn 16 = .ok (.iload_n 3, 1) := by decide +kernel
theorem dX1_areBothIn_17 : decode cX1_areBothIn 17 = .ok (.invokestatic 66, 3) := by decide +kernel
theorem dX1_areBothIn_20 : decode cX1_areBothIn 20 = .ok (.iload_n 1, 1) := by decide +kernel
theorem dX1_areBothIn_21 : decode cX1_areBothIn 21 = .ok (.if_icmp .ne 7, 3) := by decide +kernel
theorem dX1_areBothIn_24 : decode cX1_areBothIn 24 = .ok (.iconst 1, 1) := by decide +kernel
theorem dX1_areBothIn_25 : decode cX1_areBothIn 25 = .ok (.goto 4, 3) := by decide +kernel
theorem dX1_areBothIn_28 : decode cX1_areBothIn 28 = .ok (.iconst 0, 1) := by decide +kernel
theorem dX1_areBothIn_29 : decode cX1_areBothIn 29 = .ok (.ireturn, 1) := by decide +kernel
theorem dX1_hasKeeperRoom_0 : decode cX1_hasKeeperRoom 0 = .ok (.aload_n 0, 1) := by decide +kernel
theorem dX1_hasKeeperRoom_1 : decode cX1_hasKeeperRoom 1 = .ok (.getfield 43, 3) := by decide +kernel
theorem dX1_hasKeeperRoom_4 : decode cX1_hasKeeperRoom 4 = .ok (.bipush 6, 2) := by decide +kernel
theorem dX1_hasKeeperRoom_6 : decode cX1_hasKeeperRoom 6 = .ok (.if_icmp .ge 7, 3) := by decide +kernel
theorem dX1_hasKeeperRoom_9 : decode cX1_hasKeeperRoom 9 = .ok (.iconst 1, 1) := by decide +kernel
theorem dX1_hasKeeperRoom_10 : decode cX1_hasKeeperRoom 10 = .ok (.goto 4, 3) := by decide +kernel
theorem dX1_hasKeeperRoom_13 : decode cX1_hasKeeperRoom 13 = .ok (.iconst 0, 1) := by decide +kernel
theorem dX1_hasKeeperRoom_14 : decode cX1_hasKeeperRoom 14 = .ok (.ireturn, 1) := by decide +kernel
theorem dX1_hasLetterRoom_0 : decode cX1_hasLetterRoom 0 = .ok (.aload_n 0, 1) := by decide +kernel
theorem dX1_hasLetterRoom_1 : decode cX1_hasLetterRoom 1 = .ok (.getfield 47, 3) := by decide +kernel
theorem dX1_hasLetterRoom_4 : decode cX1_hasLetterRoom 4 = .ok (.bipush 6, 2) := by decide +kernel
theorem dX1_hasLetterRoom_6 : decode cX1_hasLetterRoom 6 = .ok (.if_icmp .ge 7, 3) := by decide +kernel
theorem dX1_hasLetterRoom_9 : decode cX1_hasLetterRoom 9 = .ok (.iconst 1, 1) := by decide +kernel
theorem dX1_hasLetterRoom_10 : decode cX1_hasLetterRoom 10 = .ok (.goto 4, 3) := by decide +kernel
theorem dX1_hasLetterRoom_13 : decode cX1_hasLetterRoom 13 = .ok (.iconst 0, 1) := by decide +kernel
theorem dX1_hasLetterRoom_14 : decode cX1_hasLetterRoom 14 = .ok (.ireturn, 1) := by decide +kernel
theorem dX1_kindOf_0 : decode cX1_kindOf 0 = .ok (.aload_n 0, 1) := by decide +kernel
theorem dX1_kindOf_1 : decode cX1_kindOf 1 = .ok (.getfield 9, 3) := by decide +kernel
theorem dX1_kindOf_4 : decode cX1_kindOf 4 = .ok (.iload_n 1, 1) := by decide +kernel
theorem dX1_kindOf_5 : decode cX1_kindOf 5 = .ok (.invokestatic 66, 3) := by decide +kernel
theorem dX1_kindOf_8 : decode cX1_kindOf 8 = .ok (.ireturn, 1) := by decide +kernel
theorem dX1_figureOf_0 : decode cX1_figureOf 0 = .ok (.aload_n 0, 1) := by decide +kernel
theorem dX1_figureOf_1 : decode cX1_figureOf 1 = .ok (.getfield 15, 3) := by decide +kernel
theorem dX1_figureOf_4 : decode cX1_figureOf 4 = .ok (.iload_n 1, 1) := by decide +kernel
theorem dX1_figureOf_5 : decode cX1_figureOf 5 = .ok (.invokestatic 66, 3) := by decide +kernel
theorem dX1_figureOf_8 : decode cX1_figureOf 8 = .ok (.ireturn, 1) := by decide +kernel
theorem dX1_townOf_0 : decode cX1_townOf 0 = .ok (.aload_n 0, 1) := by decide +kernel
theorem dX1_townOf_1 : decode cX1_townOf 1 = .ok (.getfield 18, 3) := by decide +kernel
theorem dX1_townOf_4 : decode cX1_townOf 4 = .ok (.iload_n 1, 1) := by decide +kernel
theorem dX1_townOf_5 : decode cX1_townOf 5 = .ok (.invokestatic 66, 3) := by decide +kernel
theorem dX1_townOf_8 : decode cX1_townOf 8 = .ok (.ireturn, 1) := by decide +kernel
theorem dX1_fadeOf_0 : decode cX1_fadeOf 0 = .ok (.aload_n 0, 1) := by decide +kernel
theorem dX1_fadeOf_1 : decode cX1_fadeOf 1 = .ok (.getfield 9, 3) := by decide +kernel
theorem dX1_fadeOf_4 : decode cX1_fadeOf 4 = .ok (.iload_n 1, 1) := by decide +kernel
theorem dX1_fadeOf_5 : decode cX1_fadeOf 5 = .ok (.invokestatic 66, 3) := by decide +kernel
theorem dX1_fadeOf_8 : decode cX1_fadeOf 8 = .ok (.aload_n 0, 1) := by decide +kernel
theorem dX1_fadeOf_9 : decode cX1_fadeOf 9 = .ok (.getfield 15, 3) := by decide +kernel
theorem dX1_fadeOf_12 : decode cX1_fadeOf 12 = .ok (.iload_n 1, 1) := by decide +kernel
theorem dX1_fadeOf_13 : decode cX1_fadeOf 13 = .ok (.invokestatic 66, 3) := by decide +kernel
theorem dX1_fadeOf_16 : decode cX1_fadeOf 16 = .ok (.invokestatic 70, 3) := by decide +kernel
theorem dX1_fadeOf_19 : decode cX1_fadeOf 19 = .ok (.ireturn, 1) := by decide +kernel
theorem dX1_stirOf_0 : decode cX1_stirOf 0 = .ok (.aload_n 0, 1) := by decide +kernel
theorem dX1_stirOf_1 : decode cX1_stirOf 1 = .ok (.getfield 9, 3) := by decide +kernel
theorem dX1_stirOf_4 : decode cX1_stirOf 4 = .ok (.iload_n 1, 1) := by decide +kernel
theorem dX1_stirOf_5 : decode cX1_stirOf 5 = .ok (.invokestatic 66, 3) := by decide +kernel
theorem dX1_stirOf_8 : decode cX1_stirOf 8 = .ok (.aload_n 0, 1) := by decide +kernel
theorem dX1_stirOf_9 : decode cX1_stirOf 9 = .ok (.getfield 15, 3) := by decide +kernel
theorem dX1_stirOf_12 : decode cX1_stirOf 12 = .ok (.iload_n 1, 1) := by decide +kernel
theorem dX1_stirOf_13 : decode cX1_stirOf 13 = .ok (.invokestatic 66, 3) := by decide +kernel
theorem dX1_stirOf_16 : decode cX1_stirOf 16 = .ok (.invokestatic 76, 3) := by decide +kernel
theorem dX1_stirOf_19 : decode cX1_stirOf 19 = .ok (.ireturn, 1) := by decide +kernel
theorem dX1_wageOf_0 : decode cX1_wageOf 0 = .ok (.aload_n 0, 1) := by decide +kernel
theorem dX1_wageOf_1 : decode cX1_wageOf 1 = .ok (.getfield 9, 3) := by decide +kernel
theorem dX1_wageOf_4 : decode cX1_wageOf 4 = .ok (.iload_n 1, 1) := by decide +kernel
theorem dX1_wageOf_5 : decode cX1_wageOf 5 = .ok (.invokestatic 66, 3) := by decide +kernel
theorem dX1_wageOf_8 : decode cX1_wageOf 8 = .ok (.aload_n 0, 1) := by decide +kernel
theorem dX1_wageOf_9 : decode cX1_wageOf 9 = .ok (.getfield 15, 3) := by decide +kernel
theorem dX1_wageOf_12 : decode cX1_wageOf 12 = .ok (.iload_n 1, 1) := by decide +kernel
theorem dX1_wageOf_13 : decode cX1_wageOf 13 = .ok (.invokestatic 66, 3) := by decide +kernel
theorem dX1_wageOf_16 : decode cX1_wageOf 16 = .ok (.invokestatic 79, 3) := by decide +kernel
theorem dX1_wageOf_19 : decode cX1_wageOf 19 = .ok (.ireturn, 1) := by decide +kernel
theorem dX1_depthOf_0 : decode cX1_depthOf 0 = .ok (.aload_n 0, 1) := by decide +kernel
theorem dX1_depthOf_1 : decode cX1_depthOf 1 = .ok (.getfield 24, 3) := by decide +kernel
theorem dX1_depthOf_4 : decode cX1_depthOf 4 = .ok (.iload_n 1, 1) := by decide +kernel
theorem dX1_depthOf_5 : decode cX1_depthOf 5 = .ok (.invokestatic 66, 3) := by decide +kernel
theorem dX1_depthOf_8 : decode cX1_depthOf 8 = .ok (.ireturn, 1) := by decide +kernel
theorem dX1_letterTownOf_0 : decode cX1_letterTownOf 0 = .ok (.aload_n 0, 1) := by decide +kernel
theorem dX1_letterTownOf_1 : decode cX1_letterTownOf 1 = .ok (.getfield 27, 3) := by decide +kernel
theorem dX1_letterTownOf_4 : decode cX1_letterTownOf 4 = .ok (.iload_n 1, 1) := by decide +kernel
theorem dX1_letterTownOf_5 : decode cX1_letterTownOf 5 = .ok (.invokestatic 66, 3) := by decide +kernel
theorem dX1_letterTownOf_8 : decode cX1_letterTownOf 8 = .ok (.ireturn, 1) := by decide +kernel
theorem dX1_isOpen_0 : decode cX1_isOpen 0 = .ok (.aload_n 0, 1) := by decide +kernel
theorem dX1_isOpen_1 : decode cX1_isOpen 1 = .ok (.getfield 50, 3) := by decide +kernel
theorem dX1_isOpen_4 : decode cX1_isOpen 4 = .ok (.iload_n 1, 1) := by decide +kernel
theorem dX1_isOpen_5 : decode cX1_isOpen 5 = .ok (.invokestatic 82, 3) := by decide +kernel
theorem dX1_isOpen_8 : decode cX1_isOpen 8 = .ok (.iconst 1, 1) := by decide +kernel
theorem dX1_isOpen_9 : decode cX1_isOpen 9 = .ok (.if_icmp .ne 7, 3) := by decide +kernel
theorem dX1_isOpen_12 : decode cX1_isOpen 12 = .ok (.iconst 1, 1) := by decide +kernel
theorem dX1_isOpen_13 : decode cX1_isOpen 13 = .ok (.goto 4, 3) := by decide +kernel
theorem dX1_isOpen_16 : decode cX1_isOpen 16 = .ok (.iconst 0, 1) := by decide +kernel
theorem dX1_isOpen_17 : decode cX1_isOpen 17 = .ok (.ireturn, 1) := by decide +kernel
theorem dX1_openedBy_0 : decode cX1_openedBy 0 = .ok (.aload_n 0, 1) := by decide +kernel
theorem dX1_openedBy_1 : decode cX1_openedBy 1 = .ok (.getfield 30, 3) := by decide +kernel
theorem dX1_openedBy_4 : decode cX1_openedBy 4 = .ok (.iload_n 1, 1) := by decide +kernel
theorem dX1_openedBy_5 : decode cX1_openedBy 5 = .ok (.invokestatic 66, 3) := by decide +kernel
theorem dX1_openedBy_8 : decode cX1_openedBy 8 = .ok (.ireturn, 1) := by decide +kernel
theorem dX1_hateOf_0 : decode cX1_hateOf 0 = .ok (.aload_n 0, 1) := by decide +kernel
theorem dX1_hateOf_1 : decode cX1_hateOf 1 = .ok (.getfield 21, 3) := by decide +kernel
theorem dX1_hateOf_4 : decode cX1_hateOf 4 = .ok (.iload_n 1, 1) := by decide +kernel
theorem dX1_hateOf_5 : decode cX1_hateOf 5 = .ok (.iload_n 2, 1) := by decide +kernel
theorem dX1_hateOf_6 : decode cX1_hateOf 6 = .ok (.invokestatic 85, 3) := by decide +kernel
theorem dX1_hateOf_9 : decode cX1_hateOf 9 = .ok (.bipush 6, 2) := by decide +kernel
theorem dX1_hateOf_11 : decode cX1_hateOf 11 = .ok (.imul, 1) := by decide +kernel
theorem dX1_hateOf_12 : decode cX1_hateOf 12 = .ok (.iload_n 1, 1) := by decide +kernel
theorem dX1_hateOf_13 : decode cX1_hateOf 13 = .ok (.iload_n 2, 1) := by decide +kernel
theorem dX1_hateOf_14 : decode cX1_hateOf 14 = .ok (.invokestatic 90, 3) := by decide +kernel
theorem dX1_hateOf_17 : decode cX1_hateOf 17 = .ok (.iadd, 1) := by decide +kernel
theorem dX1_hateOf_18 : decode cX1_hateOf 18 = .ok (.invokestatic 66, 3) := by decide +kernel
theorem dX1_hateOf_21 : decode cX1_hateOf 21 = .ok (.ireturn, 1) := by decide +kernel
theorem dX1_allHate_0 : decode cX1_allHate 0 = .ok (.iconst 0, 1) := by decide +kernel
theorem dX1_allHate_1 : decode cX1_allHate 1 = .ok (.istore_n 1, 1) := by decide +kernel
theorem dX1_allHate_2 : decode cX1_allHate 2 = .ok (.iconst 0, 1) := by decide +kernel
theorem dX1_allHate_3 : decode cX1_allHate 3 = .ok (.istore_n 2, 1) := by decide +kernel
theorem dX1_allHate_4 : decode cX1_allHate 4 = .ok (.iload_n 2, 1) := by decide +kernel
theorem dX1_allHate_5 : decode cX1_allHate 5 = .ok (.aload_n 0, 1) := by decide +kernel
theorem dX1_allHate_6 : decode cX1_allHate 6 = .ok (.getfield 43, 3) := by decide +kernel
theorem dX1_allHate_9 : decode cX1_allHate 9 = .ok (.if_icmp .ge 36, 3) := by decide +kernel
theorem dX1_allHate_12 : decode cX1_allHate 12 = .ok (.iload_n 2, 1) := by decide +kernel
theorem dX1_allHate_13 : decode cX1_allHate 13 = .ok (.iconst 1, 1) := by decide +kernel
theorem dX1_allHate_14 : decode cX1_allHate 14 = .ok (.iadd, 1) := by decide +kernel
theorem dX1_allHate_15 : decode cX1_allHate 15 = .ok (.istore_n 3, 1) := by decide +kernel
theorem dX1_allHate_16 : decode cX1_allHate 16 = .ok (.iload_n 3, 1) := by decide +kernel
theorem dX1_allHate_17 : decode cX1_allHate 17 = .ok (.aload_n 0, 1) := by decide +kernel
theorem dX1_allHate_18 : decode cX1_allHate 18 = .ok (.getfield 43, 3) := by decide +kernel
theorem dX1_allHate_21 : decode cX1_allHate 21 = .ok (.if_icmp .ge 18, 3) := by decide +kernel
theorem dX1_allHate_24 : decode cX1_allHate 24 = .ok (.iload_n 1, 1) := by decide +kernel
theorem dX1_allHate_25 : decode cX1_allHate 25 = .ok (.aload_n 0, 1) := by decide +kernel
theorem dX1_allHate_26 : decode cX1_allHate 26 = .ok (.iload_n 2, 1) := by decide +kernel
theorem dX1_allHate_27 : decode cX1_allHate 27 = .ok (.iload_n 3, 1) := by decide +kernel
theorem dX1_allHate_28 : decode cX1_allHate 28 = .ok (.invokevirtual 93, 3) := by decide +kernel
theorem dX1_allHate_31 : decode cX1_allHate 31 = .ok (.iadd, 1) := by decide +kernel
theorem dX1_allHate_32 : decode cX1_allHate 32 = .ok (.istore_n 1, 1) := by decide +kernel
theorem dX1_allHate_33 : decode cX1_allHate 33 = .ok (.iinc 3 1, 3) := by decide +kernel
theorem dX1_allHate_36 : decode cX1_allHate 36 = .ok (.goto (-20), 3) := by decide +kernel
theorem dX1_allHate_39 : decode cX1_allHate 39 = .ok (.iinc 2 1, 3) := by decide +kernel
theorem dX1_allHate_42 : decode cX1_allHate 42 = .ok (.goto (-38), 3) := by decide +kernel
theorem dX1_allHate_45 : decode cX1_allHate 45 = .ok (.iload_n 1, 1) := by decide +kernel
theorem dX1_allHate_46 : decode cX1_allHate 46 = .ok (.ireturn, 1) := by decide +kernel
theorem dX1_addKeeper_0 : decode cX1_addKeeper 0 = .ok (.aload_n 0, 1) := by decide +kernel
theorem dX1_addKeeper_1 : decode cX1_addKeeper 1 = .ok (.getfield 43, 3) := by decide +kernel
theorem dX1_addKeeper_4 : decode cX1_addKeeper 4 = .ok (.istore 4, 2) := by decide +kernel
theorem dX1_addKeeper_6 : decode cX1_addKeeper 6 = .ok (.aload_n 0, 1) := by decide +kernel
theorem dX1_addKeeper_7 : decode cX1_addKeeper 7 = .ok (.getfield 9, 3) := by decide +kernel
theorem dX1_addKeeper_10 : decode cX1_addKeeper 10 = .ok (.iload 4, 2) := by decide +kernel
theorem dX1_addKeeper_12 : decode cX1_addKeeper 12 = .ok (.iload_n 1, 1) := by decide +kernel
theorem dX1_addKeeper_13 : decode cX1_addKeeper 13 = .ok (.invokestatic 96, 3) := by decide +kernel
theorem dX1_addKeeper_16 : decode cX1_addKeeper 16 = .ok (.aload_n 0, 1) := by decide +kernel
theorem dX1_addKeeper_17 : decode cX1_addKeeper 17 = .ok (.getfield 15, 3) := by decide +kernel
theorem dX1_addKeeper_20 : decode cX1_addKeeper 20 = .ok (.iload 4, 2) := by decide +kernel
theorem dX1_addKeeper_22 : decode cX1_addKeeper 22 = .ok (.iload_n 2, 1) := by decide +kernel
theorem dX1_addKeeper_23 : decode cX1_addKeeper 23 = .ok (.invokestatic 96, 3) := by decide +kernel
theorem dX1_addKeeper_26 : decode cX1_addKeeper 26 = .ok (.aload_n 0, 1) := by decide +kernel
theorem dX1_addKeeper_27 : decode cX1_addKeeper 27 = .ok (.getfield 18, 3) := by decide +kernel
theorem dX1_addKeeper_30 : decode cX1_addKeeper 30 = .ok (.iload 4, 2) := by decide +kernel
theorem dX1_addKeeper_32 : decode cX1_addKeeper 32 = .ok (.iload_n 3, 1) := by decide +kernel
theorem dX1_addKeeper_33 : decode cX1_addKeeper 33 = .ok (.invokestatic 96, 3) := by decide +kernel
theorem dX1_addKeeper_36 : decode cX1_addKeeper 36 = .ok (.iconst 0, 1) := by decide +kernel
theorem dX1_addKeeper_37 : decode cX1_addKeeper 37 = .ok (.istore 5, 2) := by decide +kernel
theorem dX1_addKeeper_39 : decode cX1_addKeeper 39 = .ok (.iload 5, 2) := by decide +kernel
theorem dX1_addKeeper_41 : decode cX1_addKeeper 41 = .ok (.iload 4, 2) := by decide +kernel
theorem dX1_addKeeper_43 : decode cX1_addKeeper 43 = .ok (.if_icmp .ge 19, 3) := by decide +kernel
theorem dX1_addKeeper_46 : decode cX1_addKeeper 46 = .ok (.aload_n 0, 1) := by decide +kernel
theorem dX1_addKeeper_47 : decode cX1_addKeeper 47 = .ok (.iload 5, 2) := by decide +kernel
theorem dX1_addKeeper_49 : decode cX1_addKeeper 49 = .ok (.iload 4, 2) := by decide +kernel
theorem dX1_addKeeper_51 : decode cX1_addKeeper 51 = .ok (.bipush 20, 2) := by decide +kernel
theorem dX1_addKeeper_53 : decode cX1_addKeeper 53 = .ok (.invokevirtual 100, 3) := by decide +kernel
theorem dX1_addKeeper_56 : decode cX1_addKeeper 56 = .ok (.iinc 5 1, 3) := by decide +kernel
theorem dX1_addKeeper_59 : decode cX1_addKeeper 59 = .ok (.goto (-20), 3) := by decide +kernel
theorem dX1_addKeeper_62 : decode cX1_addKeeper 62 = .ok (.aload_n 0, 1) := by decide +kernel
theorem dX1_addKeeper_63 : decode cX1_addKeeper 63 = .ok (.dup, 1) := by decide +kernel
theorem dX1_addKeeper_64 : decode cX1_addKeeper 64 = .ok (.getfield 43, 3) := by decide +kernel
theorem dX1_addKeeper_67 : decode cX1_addKeeper 67 = .ok (.iconst 1, 1) := by decide +kernel
theorem dX1_addKeeper_68 : decode cX1_addKeeper 68 = .ok (.iadd, 1) := by decide +kernel
theorem dX1_addKeeper_69 : decode cX1_addKeeper 69 = .ok (.putfield 43, 3) := by decide +kernel
theorem dX1_addKeeper_72 : decode cX1_addKeeper 72 = .ok (.iload 4, 2) := by decide +kernel
theorem dX1_addKeeper_74 : decode cX1_addKeeper 74 = .ok (.ireturn, 1) := by decide +kernel
theorem dX1_addLetter_0 : decode cX1_addLetter 0 = .ok (.aload_n 0, 1) := by decide +kernel
theorem dX1_addLetter_1 : decode cX1_addLetter 1 = .ok (.getfield 47, 3) := by decide +kernel
theorem dX1_addLetter_4 : decode cX1_addLetter 4 = .ok (.istore_n 3, 1) := by decide +kernel
theorem dX1_addLetter_5 : decode cX1_addLetter 5 = .ok (.aload_n 0, 1) := by decide +kernel
theorem dX1_addLetter_6 : decode cX1_addLetter 6 = .ok (.getfield 24, 3) := by decide +kernel
theorem dX1_addLetter_9 : decode cX1_addLetter 9 = .ok (.iload_n 3, 1) := by decide +kernel
theorem dX1_addLetter_10 : decode cX1_addLetter 10 = .ok (.iload_n 2, 1) := by decide +kernel
theorem dX1_addLetter_11 : decode cX1_addLetter 11 = .ok (.invokestatic 96, 3) := by decide +kernel
theorem dX1_addLetter_14 : decode cX1_addLetter 14 = .ok (.aload_n 0, 1) := by decide +kernel
theorem dX1_addLetter_15 : decode cX1_addLetter 15 = .ok (.getfield 27, 3) := by decide +kernel
theorem dX1_addLetter_18 : decode cX1_addLetter 18 = .ok (.iload_n 3, 1) := by decide +kernel
theorem dX1_addLetter_19 : decode cX1_addLetter 19 = .ok (.iload_n 1, 1) := by decide +kernel
theorem dX1_addLetter_20 : decode cX1_addLetter 20 = .ok (.invokestatic 96, 3) := by decide +kernel
theorem dX1_addLetter_23 : decode cX1_addLetter 23 = .ok (.aload_n 0, 1) := by decide +kernel
theorem dX1_addLetter_24 : decode cX1_addLetter 24 = .ok (.dup, 1) := by decide +kernel
theorem dX1_addLetter_25 : decode cX1_addLetter 25 = .ok (.getfield 47, 3) := by decide +kernel
theorem dX1_addLetter_28 : decode cX1_addLetter 28 = .ok (.iconst 1, 1) := by decide +kernel
theorem dX1_addLetter_29 : decode cX1_addLetter 29 = .ok (.iadd, 1) := by decide +kernel
theorem dX1_addLetter_30 : decode cX1_addLetter 30 = .ok (.putfield 47, 3) := by decide +kernel
theorem dX1_addLetter_33 : decode cX1_addLetter 33 = .ok (.iload_n 3, 1) := by decide +kernel
theorem dX1_addLetter_34 : decode cX1_addLetter 34 = .ok (.ireturn, 1) := by decide +kernel
theorem dX1_setHate_0 : decode cX1_setHate 0 = .ok (.iconst 0, 1) := by decide +kernel
theorem dX1_setHate_1 : decode cX1_setHate 1 = .ok (.bipush 99, 2) := by decide +kernel
theorem dX1_setHate_3 : decode cX1_setHate 3 = .ok (.iload_n 3, 1) := by decide +kernel
theorem dX1_setHate_4 : decode cX1_setHate 4 = .ok (.invokestatic 85, 3) := by decide +kernel
theorem dX1_setHate_7 : decode cX1_setHate 7 = .ok (.invokestatic 90, 3) := by decide +kernel
theorem dX1_setHate_10 : decode cX1_setHate 10 = .ok (.istore 4, 2) := by decide +kernel
theorem dX1_setHate_12 : decode cX1_setHate 12 = .ok (.aload_n 0, 1) := by decide +kernel
theorem dX1_setHate_13 : decode cX1_setHate 13 = .ok (.getfield 21, 3) := by decide +kernel
theorem dX1_setHate_16 : decode cX1_setHate 16 = .ok (.iload_n 1, 1) := by decide +kernel
theorem dX1_setHate_17 : decode cX1_setHate 17 = .ok (.iload_n 2, 1) := by decide +kernel
theorem dX1_setHate_18 : decode cX1_setHate 18 = .ok (.invokestatic 85, 3) := by decide +kernel
theorem dX1_setHate_21 : decode cX1_setHate 21 = .ok (.bipush 6, 2) := by decide +kernel
theorem dX1_setHate_23 : decode cX1_setHate 23 = .ok (.imul, 1) := by decide +kernel
theorem dX1_setHate_24 : decode cX1_setHate 24 = .ok (.iload_n 1, 1) := by decide +kernel
theorem dX1_setHate_25 : decode cX1_setHate 25 = .ok (.iload_n 2, 1) := by decide +kernel
theorem dX1_setHate_26 : decode cX1_setHate 26 = .ok (.invokestatic 90, 3) := by decide +kernel
theorem dX1_setHate_29 : decode cX1_setHate 29 = .ok (.iadd, 1) := by decide +kernel
theorem dX1_setHate_30 : decode cX1_setHate 30 = .ok (.iload 4, 2) := by decide +kernel
theorem dX1_setHate_32 : decode cX1_setHate 32 = .ok (.invokestatic 96, 3) := by decide +kernel
theorem dX1_setHate_35 : decode cX1_setHate 35 = .ok (.return_, 1) := by decide +kernel
theorem dX1_setKind_0 : decode cX1_setKind 0 = .ok (.aload_n 0, 1) := by decide +kernel
theorem dX1_setKind_1 : decode cX1_setKind 1 = .ok (.getfield 9, 3) := by decide +kernel
theorem dX1_setKind_4 : decode cX1_setKind 4 = .ok (.iload_n 1, 1) := by decide +kernel
theorem dX1_setKind_5 : decode cX1_setKind 5 = .ok (.iload_n 2, 1) := by decide +kernel
theorem dX1_setKind_6 : decode cX1_setKind 6 = .ok (.invokestatic 96, 3) := by decide +kernel
theorem dX1_setKind_9 : decode cX1_setKind 9 = .ok (.return_, 1) := by decide +kernel
theorem dX1_setFigure_0 : decode cX1_setFigure 0 = .ok (.aload_n 0, 1) := by decide +kernel
theorem dX1_setFigure_1 : decode cX1_setFigure 1 = .ok (.getfield 15, 3) := by decide +kernel
theorem dX1_setFigure_4 : decode cX1_setFigure 4 = .ok (.iload_n 1, 1) := by decide +kernel
theorem dX1_setFigure_5 : decode cX1_setFigure 5 = .ok (.iload_n 2, 1) := by decide +kernel
theorem dX1_setFigure_6 : decode cX1_setFigure 6 = .ok (.invokestatic 96, 3) := by decide +kernel
theorem dX1_setFigure_9 : decode cX1_setFigure 9 = .ok (.return_, 1) := by decide +kernel
theorem dX1_move_0 : decode cX1_move 0 = .ok (.aload_n 0, 1) := by decide +kernel
theorem dX1_move_1 : decode cX1_move 1 = .ok (.getfield 18, 3) := by decide +kernel
theorem dX1_move_4 : decode cX1_move 4 = .ok (.iload_n 1, 1) := by decide +kernel
theorem dX1_move_5 : decode cX1_move 5 = .ok (.iload_n 2, 1) := by decide +kernel
theorem dX1_move_6 : decode cX1_move 6 = .ok (.invokestatic 96, 3) := by decide +kernel
theorem dX1_move_9 : decode cX1_move 9 = .ok (.return_, 1) := by decide +kernel
theorem dX1_turnSeal_0 : decode cX1_turnSeal 0 = .ok (.aload_n 0, 1) := by decide +kernel
theorem dX1_turnSeal_1 : decode cX1_turnSeal 1 = .ok (.iload_n 1, 1) := by decide +kernel
theorem dX1_turnSeal_2 : decode cX1_turnSeal 2 = .ok (.invokevirtual 104, 3) := by decide +kernel
theorem dX1_turnSeal_5 : decode cX1_turnSeal 5 = .ok (.ifCond .eq 15, 3) := by decide +kernel
theorem dX1_turnSeal_8 : decode cX1_turnSeal 8 = .ok (.aload_n 0, 1) := by decide +kernel
theorem dX1_turnSeal_9 : decode cX1_turnSeal 9 = .ok (.dup, 1) := by decide +kernel
theorem dX1_turnSeal_10 : decode cX1_turnSeal 10 = .ok (.getfield 50, 3) := by decide +kernel
theorem dX1_turnSeal_13 : decode cX1_turnSeal 13 = .ok (.iconst 1, 1) := by decide +kernel
theorem dX1_turnSeal_14 : decode cX1_turnSeal 14 = .ok (.iload_n 1, 1) := by decide +kernel
theorem dX1_turnSeal_15 : decode cX1_turnSeal 15 = .ok (.ishl, 1) := by decide +kernel
theorem dX1_turnSeal_16 : decode cX1_turnSeal 16 = .ok (.ixor, 1) := by decide +kernel
theorem dX1_turnSeal_17 : decode cX1_turnSeal 17 = .ok (.putfield 50, 3) := by decide +kernel
theorem dX1_turnSeal_20 : decode cX1_turnSeal 20 = .ok (.return_, 1) := by decide +kernel
theorem dX1_opener_0 : decode cX1_opener 0 = .ok (.aload_n 0, 1) := by decide +kernel
theorem dX1_opener_1 : decode cX1_opener 1 = .ok (.getfield 27, 3) := by decide +kernel
theorem dX1_opener_4 : decode cX1_opener 4 = .ok (.iload_n 1, 1) := by decide +kernel
theorem dX1_opener_5 : decode cX1_opener 5 = .ok (.invokestatic 66, 3) := by decide +kernel
theorem dX1_opener_8 : decode cX1_opener 8 = .ok (.istore_n 2, 1) := by decide +kernel
theorem dX1_opener_9 : decode cX1_opener 9 = .ok (.aload_n 0, 1) := by decide +kernel
theorem dX1_opener_10 : decode cX1_opener 10 = .ok (.getfield 24, 3) := by decide +kernel
theorem dX1_opener_13 : decode cX1_opener 13 = .ok (.iload_n 1, 1) := by decide +kernel
theorem dX1_opener_14 : decode cX1_opener 14 = .ok (.invokestatic 66, 3) := by decide +kernel
theorem dX1_opener_17 : decode cX1_opener 17 = .ok (.istore_n 3, 1) := by decide +kernel
theorem dX1_opener_18 : decode cX1_opener 18 = .ok (.bipush (-9), 2) := by decide +kernel
theorem dX1_opener_20 : decode cX1_opener 20 = .ok (.istore 4, 2) := by decide +kernel
theorem dX1_opener_22 : decode cX1_opener 22 = .ok (.bipush 100, 2) := by decide +kernel
theorem dX1_opener_24 : decode cX1_opener 24 = .ok (.istore 5, 2) := by decide +kernel
theorem dX1_opener_26 : decode cX1_opener 26 = .ok (.iconst 0, 1) := by decide +kernel
theorem dX1_opener_27 : decode cX1_opener 27 = .ok (.istore 6, 2) := by decide +kernel
theorem dX1_opener_29 : decode cX1_opener 29 = .ok (.iload 6, 2) := by decide +kernel
theorem dX1_opener_31 : decode cX1_opener 31 = .ok (.aload_n 0, 1) := by decide +kernel
theorem dX1_opener_32 : decode cX1_opener 32 = .ok (.getfield 43, 3) := by decide +kernel
theorem dX1_opener_35 : decode cX1_opener 35 = .ok (.if_icmp .ge 83, 3) := by decide +kernel
theorem dX1_opener_38 : decode cX1_opener 38 = .ok (.iload 6, 2) := by decide +kernel
theorem dX1_opener_40 : decode cX1_opener 40 = .ok (.iconst 1, 1) := by decide +kernel
theorem dX1_opener_41 : decode cX1_opener 41 = .ok (.iadd, 1) := by decide +kernel
theorem dX1_opener_42 : decode cX1_opener 42 = .ok (.istore 7, 2) := by decide +kernel
theorem dX1_opener_44 : decode cX1_opener 44 = .ok (.iload 7, 2) := by decide +kernel
theorem dX1_opener_46 : decode cX1_opener 46 = .ok (.aload_n 0, 1) := by decide +kernel
theorem dX1_opener_47 : decode cX1_opener 47 = .ok (.getfield 43, 3) := by decide +kernel
theorem dX1_opener_50 : decode cX1_opener 50 = .ok (.if_icmp .ge 62, 3) := by decide +kernel
theorem dX1_opener_53 : decode cX1_opener 53 = .ok (.aload_n 0, 1) := by decide +kernel
theorem dX1_opener_54 : decode cX1_opener 54 = .ok (.iload_n 2, 1) := by decide +kernel
theorem dX1_opener_55 : decode cX1_opener 55 = .ok (.iload 6, 2) := by decide +kernel
theorem dX1_opener_57 : decode cX1_opener 57 = .ok (.iload 7, 2) := by decide +kernel
theorem dX1_opener_59 : decode cX1_opener 59 = .ok (.invokevirtual 107, 3) := by decide +kernel
theorem dX1_opener_62 : decode cX1_opener 62 = .ok (.ifCond .eq 14, 3) := by decide +kernel
theorem dX1_opener_65 : decode cX1_opener 65 = .ok (.aload_n 0, 1) := by decide +kernel
theorem dX1_opener_66 : decode cX1_opener 66 = .ok (.iload 6, 2) := by decide +kernel
theorem dX1_opener_68 : decode cX1_opener 68 = .ok (.iload 7, 2) := by decide +kernel
theorem dX1_opener_70 : decode cX1_opener 70 = .ok (.invokevirtual 93, 3) := by decide +kernel
theorem dX1_opener_73 : decode cX1_opener 73 = .ok (.goto 5, 3) := by decide +kernel
theorem dX1_opener_76 : decode cX1_opener 76 = .ok (.bipush (-9), 2) := by decide +kernel
theorem dX1_opener_78 : decode cX1_opener 78 = .ok (.istore 8, 2) := by decide +kernel
theorem dX1_opener_80 : decode cX1_opener 80 = .ok (.iload 8, 2) := by decide +kernel
theorem dX1_opener_82 : decode cX1_opener 82 = .ok (.iload_n 3, 1) := by decide +kernel
theorem dX1_opener_83 : decode cX1_opener 83 = .ok (.if_icmp .lt 23, 3) := by decide +kernel
theorem dX1_opener_86 : decode cX1_opener 86 = .ok (.iload 8, 2) := by decide +kernel
theorem dX1_opener_88 : decode cX1_opener 88 = .ok (.iload 5, 2) := by decide +kernel
theorem dX1_opener_90 : decode cX1_opener 90 = .ok (.if_icmp .ge 16, 3) := by decide +kernel
theorem dX1_opener_93 : decode cX1_opener 93 = .ok (.iload 6, 2) := by decide +kernel
theorem dX1_opener_95 : decode cX1_opener 95 = .ok (.iload 7, 2) := by decide +kernel
theorem dX1_opener_97 : decode cX1_opener 97 = .ok (.invokestatic 111, 3) := by decide +kernel
theorem dX1_opener_100 : decode cX1_opener 100 = .ok (.istore 4, 2) := by decide +kernel
theorem dX1_opener_102 : decode cX1_opener 102 = .ok (.iload 8, 2) := by decide +kernel
theorem dX1_opener_104 : decode cX1_opener 104 = .ok (.istore 5, 2) := by decide +kernel
theorem dX1_opener_106 : decode cX1_opener 106 = .ok (.iinc 7 1, 3) := by decide +kernel
theorem dX1_opener_109 : decode cX1_opener 109 = .ok (.goto (-65), 3) := by decide +kernel
theorem dX1_opener_112 : decode cX1_opener 112 = .ok (.iinc 6 1, 3) := by decide +kernel
theorem dX1_opener_115 : decode cX1_opener 115 = .ok (.goto (-86), 3) := by decide +kernel
theorem dX1_opener_118 : decode cX1_opener 118 = .ok (.iload 4, 2) := by decide +kernel
theorem dX1_opener_120 : decode cX1_opener 120 = .ok (.ireturn, 1) := by decide +kernel
theorem dX1_passWeeks_0 : decode cX1_passWeeks 0 = .ok (.iconst 0, 1) := by decide +kernel
theorem dX1_passWeeks_1 : decode cX1_passWeeks 1 = .ok (.istore_n 2, 1) := by decide +kernel
theorem dX1_passWeeks_2 : decode cX1_passWeeks 2 = .ok (.iload_n 2, 1) := by decide +kernel
theorem dX1_passWeeks_3 : decode cX1_passWeeks 3 = .ok (.iload_n 1, 1) := by decide +kernel
theorem dX1_passWeeks_4 : decode cX1_passWeeks 4 = .ok (.if_icmp .ge 14, 3) := by decide +kernel
theorem dX1_passWeeks_7 : decode cX1_passWeeks 7 = .ok (.aload_n 0, 1) := by decide +kernel
theorem dX1_passWeeks_8 : decode cX1_passWeeks 8 = .ok (.invokevirtual 114, 3) := by decide +kernel
theorem dX1_passWeeks_11 : decode cX1_passWeeks 11 = .ok (.pop, 1) := by decide +kernel
theorem dX1_passWeeks_12 : decode cX1_passWeeks 12 = .ok (.iinc 2 1, 3) := by decide +kernel
theorem dX1_passWeeks_15 : decode cX1_passWeeks 15 = .ok (.goto (-13), 3) := by decide +kernel
theorem dX1_passWeeks_18 : decode cX1_passWeeks 18 = .ok (.aload_n 0, 1) := by decide +kernel
theorem dX1_passWeeks_19 : decode cX1_passWeeks 19 = .ok (.invokevirtual 118, 3) := by decide +kernel
theorem dX1_passWeeks_22 : decode cX1_passWeeks 22 = .ok (.ireturn, 1) := by decide +kernel
theorem dX1_passWeek_0 : decode cX1_passWeek 0 = .ok (.aload_n 0, 1) := by decide +kernel
theorem dX1_passWeek_1 : decode cX1_passWeek 1 = .ok (.dup, 1) := by decide +kernel
theorem dX1_passWeek_2 : decode cX1_passWeek 2 = .ok (.getfield 53, 3) := by decide +kernel
theorem dX1_passWeek_5 : decode cX1_passWeek 5 = .ok (.iconst 1, 1) := by decide +kernel
theorem dX1_passWeek_6 : decode cX1_passWeek 6 = .ok (.iadd, 1) := by decide +kernel
theorem dX1_passWeek_7 : decode cX1_passWeek 7 = .ok (.putfield 53, 3) := by decide +kernel
theorem dX1_passWeek_10 : decode cX1_passWeek 10 = .ok (.iconst 0, 1) := by decide +kernel
theorem dX1_passWeek_11 : decode cX1_passWeek 11 = .ok (.istore_n 1, 1) := by decide +kernel
theorem dX1_passWeek_12 : decode cX1_passWeek 12 = .ok (.iload_n 1, 1) := by decide +kernel
theorem dX1_passWeek_13 : decode cX1_passWeek 13 = .ok (.aload_n 0, 1) := by decide +kernel
theorem dX1_passWeek_14 : decode cX1_passWeek 14 = .ok (.getfield 43, 3) := by decide +kernel
theorem dX1_passWeek_17 : decode cX1_passWeek 17 = .ok (.if_icmp .ge 46, 3) := by decide +kernel
theorem dX1_passWeek_20 : decode cX1_passWeek 20 = .ok (.iload_n 1, 1) := by decide +kernel
theorem dX1_passWeek_21 : decode cX1_passWeek 21 = .ok (.iconst 1, 1) := by decide +kernel
theorem dX1_passWeek_22 : decode cX1_passWeek 22 = .ok (.iadd, 1) := by decide +kernel
theorem dX1_passWeek_23 : decode cX1_passWeek 23 = .ok (.istore_n 2, 1) := by decide +kernel
theorem dX1_passWeek_24 : decode cX1_passWeek 24 = .ok (.iload_n 2, 1) := by decide +kernel
theorem dX1_passWeek_25 : decode cX1_passWeek 25 = .ok (.aload_n 0, 1) := by decide +kernel
theorem dX1_passWeek_26 : decode cX1_passWeek 26 = .ok (.getfield 43, 3) := by decide +kernel
theorem dX1_passWeek_29 : decode cX1_passWeek 29 = .ok (.if_icmp .ge 28, 3) := by decide +kernel
theorem dX1_passWeek_32 : decode cX1_passWeek 32 = .ok (.aload_n 0, 1) := by decide +kernel
theorem dX1_passWeek_33 : decode cX1_passWeek 33 = .ok (.iload_n 1, 1) := by decide +kernel
theorem dX1_passWeek_34 : decode cX1_passWeek 34 = .ok (.iload_n 2, 1) := by decide +kernel
theorem dX1_passWeek_35 : decode cX1_passWeek 35 = .ok (.aload_n 0, 1) := by decide +kernel
theorem dX1_passWeek_36 : decode cX1_passWeek 36 = .ok (.iload_n 1, 1) := by decide +kernel
theorem dX1_passWeek_37 : decode cX1_passWeek 37 = .ok (.iload_n 2, 1) := by decide +kernel
theorem dX1_passWeek_38 : decode cX1_passWeek 38 = .ok (.invokevirtual 93, 3) := by decide +kernel
theorem dX1_passWeek_41 : decode cX1_passWeek 41 = .ok (.aload_n 0, 1) := by decide +kernel
theorem dX1_passWeek_42 : decode cX1_passWeek 42 = .ok (.iload_n 1, 1) := by decide +kernel
theorem dX1_passWeek_43 : decode cX1_passWeek 43 = .ok (.iload_n 2, 1) := by decide +kernel
theorem dX1_passWeek_44 : decode cX1_passWeek 44 = .ok (.invokevirtual 121, 3) := by decide +kernel
theorem dX1_passWeek_47 : decode cX1_passWeek 47 = .ok (.iadd, 1) := by decide +kernel
theorem dX1_passWeek_48 : decode cX1_passWeek 48 = .ok (.invokevirtual 100, 3) := by decide +kernel
theorem dX1_passWeek_51 : decode cX1_passWeek 51 = .ok (.iinc 2 1, 3) := by decide +kernel
theorem dX1_passWeek_54 : decode cX1_passWeek 54 = .ok (.goto (-30), 3) := by decide +kernel
theorem dX1_passWeek_57 : decode cX1_passWeek 57 = .ok (.iinc 1 1, 3) := by decide +kernel
theorem dX1_passWeek_60 : decode cX1_passWeek 60 = .ok (.goto (-48), 3) := by decide +kernel
theorem dX1_passWeek_63 : decode cX1_passWeek 63 = .ok (.iconst 0, 1) := by decide +kernel
theorem dX1_passWeek_64 : decode cX1_passWeek 64 = .ok (.istore_n 1, 1) := by decide +kernel
theorem dX1_passWeek_65 : decode cX1_passWeek 65 = .ok (.iconst 0, 1) := by decide +kernel
theorem dX1_passWeek_66 : decode cX1_passWeek 66 = .ok (.istore_n 2, 1) := by decide +kernel
theorem dX1_passWeek_67 : decode cX1_passWeek 67 = .ok (.iload_n 2, 1) := by decide +kernel
theorem dX1_passWeek_68 : decode cX1_passWeek 68 = .ok (.aload_n 0, 1) := by decide +kernel
theorem dX1_passWeek_69 : decode cX1_passWeek 69 = .ok (.getfield 47, 3) := by decide +kernel
theorem dX1_passWeek_72 : decode cX1_passWeek 72 = .ok (.if_icmp .ge 87, 3) := by decide +kernel
theorem dX1_passWeek_75 : decode cX1_passWeek 75 = .ok (.aload_n 0, 1) := by decide +kernel
theorem dX1_passWeek_76 : decode cX1_passWeek 76 = .ok (.iload_n 2, 1) := by decide +kernel
theorem dX1_passWeek_77 : decode cX1_passWeek 77 = .ok (.invokevirtual 124, 3) := by decide +kernel
theorem dX1_passWeek_80 : decode cX1_passWeek 80 = .ok (.ifCond .eq 8, 3) := by decide +kernel
theorem dX1_passWeek_83 : decode cX1_passWeek 83 = .ok (.bipush (-9), 2) := by decide +kernel
theorem dX1_passWeek_85 : decode cX1_passWeek 85 = .ok (.goto 8, 3) := by decide +kernel
theorem dX1_passWeek_88 : decode cX1_passWeek 88 = .ok (.aload_n 0, 1) := by decide +kernel
theorem dX1_passWeek_89 : decode cX1_passWeek 89 = .ok (.iload_n 2, 1) := by decide +kernel
theorem dX1_passWeek_90 : decode cX1_passWeek 90 = .ok (.invokevirtual 127, 3) := by decide +kernel
theorem dX1_passWeek_93 : decode cX1_passWeek 93 = .ok (.istore_n 3, 1) := by decide +kernel
theorem dX1_passWeek_94 : decode cX1_passWeek 94 = .ok (.iload_n 3, 1) := by decide +kernel
theorem dX1_passWeek_95 : decode cX1_passWeek 95 = .ok (.bipush (-9), 2) := by decide +kernel
theorem dX1_passWeek_97 : decode cX1_passWeek 97 = .ok (.if_icmp .eq 56, 3) := by decide +kernel
theorem dX1_passWeek_100 : decode cX1_passWeek 100 = .ok (.iload_n 1, 1) := by decide +kernel
theorem dX1_passWeek_101 : decode cX1_passWeek 101 = .ok (.iconst 1, 1) := by decide +kernel
theorem dX1_passWeek_102 : decode cX1_passWeek 102 = .ok (.iload_n 2, 1) := by decide +kernel
theorem dX1_passWeek_103 : decode cX1_passWeek 103 = .ok (.ishl, 1) := by decide +kernel
theorem dX1_passWeek_104 : decode cX1_passWeek 104 = .ok (.ior, 1) := by decide +kernel
theorem dX1_passWeek_105 : decode cX1_passWeek 105 = .ok (.istore_n 1, 1) := by decide +kernel
theorem dX1_passWeek_106 : decode cX1_passWeek 106 = .ok (.aload_n 0, 1) := by decide +kernel
theorem dX1_passWeek_107 : decode cX1_passWeek 107 = .ok (.dup, 1) := by decide +kernel
theorem dX1_passWeek_108 : decode cX1_passWeek 108 = .ok (.getfield 50, 3) := by decide +kernel
theorem dX1_passWeek_111 : decode cX1_passWeek 111 = .ok (.iconst 1, 1) := by decide +kernel
theorem dX1_passWeek_112 : decode cX1_passWeek 112 = .ok (.iload_n 2, 1) := by decide +kernel
theorem dX1_passWeek_113 : decode cX1_passWeek 113 = .ok (.ishl, 1) := by decide +kernel
theorem dX1_passWeek_114 : decode cX1_passWeek 114 = .ok (.ior, 1) := by decide +kernel
theorem dX1_passWeek_115 : decode cX1_passWeek 115 = .ok (.putfield 50, 3) := by decide +kernel
theorem dX1_passWeek_118 : decode cX1_passWeek 118 = .ok (.aload_n 0, 1) := by decide +kernel
theorem dX1_passWeek_119 : decode cX1_passWeek 119 = .ok (.getfield 30, 3) := by decide +kernel
theorem dX1_passWeek_122 : decode cX1_passWeek 122 = .ok (.iload_n 2, 1) := by decide +kernel
theorem dX1_passWeek_123 : decode cX1_passWeek 123 = .ok (.iload_n 3, 1) := by decide +kernel
theorem dX1_passWeek_124 : decode cX1_passWeek 124 = .ok (.invokestatic 96, 3) := by decide +kernel
theorem dX1_passWeek_127 : decode cX1_passWeek 127 = .ok (.aload_n 0, 1) := by decide +kernel
theorem dX1_passWeek_128 : decode cX1_passWeek 128 = .ok (.iload_n 3, 1) := by decide +kernel
theorem dX1_passWeek_129 : decode cX1_passWeek 129 = .ok (.bipush 10, 2) := by decide +kernel
theorem dX1_passWeek_131 : decode cX1_passWeek 131 = .ok (.idiv, 1) := by decide +kernel
theorem dX1_passWeek_132 : decode cX1_passWeek 132 = .ok (.iload_n 3, 1) := by decide +kernel
theorem dX1_passWeek_133 : decode cX1_passWeek 133 = .ok (.bipush 10, 2) := by decide +kernel
theorem dX1_passWeek_135 : decode cX1_passWeek 135 = .ok (.irem, 1) := by decide +kernel
theorem dX1_passWeek_136 : decode cX1_passWeek 136 = .ok (.aload_n 0, 1) := by decide +kernel
theorem dX1_passWeek_137 : decode cX1_passWeek 137 = .ok (.iload_n 3, 1) := by decide +kernel
theorem dX1_passWeek_138 : decode cX1_passWeek 138 = .ok (.bipush 10, 2) := by decide +kernel
theorem dX1_passWeek_140 : decode cX1_passWeek 140 = .ok (.idiv, 1) := by decide +kernel
theorem dX1_passWeek_141 : decode cX1_passWeek 141 = .ok (.iload_n 3, 1) := by decide +kernel
theorem dX1_passWeek_142 : decode cX1_passWeek 142 = .ok (.bipush 10, 2) := by decide +kernel
theorem dX1_passWeek_144 : decode cX1_passWeek 144 = .ok (.irem, 1) := by decide +kernel
theorem dX1_passWeek_145 : decode cX1_passWeek 145 = .ok (.invokevirtual 93, 3) := by decide +kernel
theorem dX1_passWeek_148 : decode cX1_passWeek 148 = .ok (.iconst 5, 1) := by decide +kernel
theorem dX1_passWeek_149 : decode cX1_passWeek 149 = .ok (.isub, 1) := by decide +kernel
theorem dX1_passWeek_150 : decode cX1_passWeek 150 = .ok (.invokevirtual 100, 3) := by decide +kernel
theorem dX1_passWeek_153 : decode cX1_passWeek 153 = .ok (.iinc 2 1, 3) := by decide +kernel
theorem dX1_passWeek_156 : decode cX1_passWeek 156 = .ok (.goto (-89), 3) := by decide +kernel
theorem dX1_passWeek_159 : decode cX1_passWeek 159 = .ok (.iload_n 1, 1) := by decide +kernel
theorem dX1_passWeek_160 : decode cX1_passWeek 160 = .ok (.ireturn, 1) := by decide +kernel
theorem dX1_change_0 : decode cX1_change 0 = .ok (.aload_n 0, 1) := by decide +kernel
theorem dX1_change_1 : decode cX1_change 1 = .ok (.getfield 18, 3) := by decide +kernel
theorem dX1_change_4 : decode cX1_change 4 = .ok (.iload_n 1, 1) := by decide +kernel
theorem dX1_change_5 : decode cX1_change 5 = .ok (.invokestatic 66, 3) := by decide +kernel
theorem dX1_change_8 : decode cX1_change 8 = .ok (.istore_n 3, 1) := by decide +kernel
theorem dX1_change_9 : decode cX1_change 9 = .ok (.aload_n 0, 1) := by decide +kernel
theorem dX1_change_10 : decode cX1_change 10 = .ok (.getfield 18, 3) := by decide +kernel
theorem dX1_change_13 : decode cX1_change 13 = .ok (.iload_n 2, 1) := by decide +kernel
theorem dX1_change_14 : decode cX1_change 14 = .ok (.invokestatic 66, 3) := by decide +kernel
theorem dX1_change_17 : decode cX1_change 17 = .ok (.istore 4, 2) := by decide +kernel
theorem dX1_change_19 : decode cX1_change 19 = .ok (.iload_n 3, 1) := by decide +kernel
theorem dX1_change_20 : decode cX1_change 20 = .ok (.iconst (-1), 1) := by decide +kernel
theorem dX1_change_21 : decode cX1_change 21 = .ok (.if_icmp .eq 9, 3) := by decide +kernel
theorem dX1_change_24 : decode cX1_change 24 = .ok (.iload 4, 2) := by decide +kernel
theorem dX1_change_26 : decode cX1_change 26 = .ok (.iconst (-1), 1) := by decide +kernel
theorem dX1_change_27 : decode cX1_change 27 = .ok (.if_icmp .ne 5, 3) := by decide +kernel
theorem dX1_change_30 : decode cX1_change 30 = .ok (.iconst 0, 1) := by decide +kernel
theorem dX1_change_31 : decode cX1_change 31 = .ok (.ireturn, 1) := by decide +kernel
theorem dX1_change_32 : decode cX1_change 32 = .ok (.iload_n 3, 1) := by decide +kernel
theorem dX1_change_33 : decode cX1_change 33 = .ok (.iload 4, 2) := by decide +kernel
theorem dX1_change_35 : decode cX1_change 35 = .ok (.if_icmp .ne 18, 3) := by decide +kernel
theorem dX1_change_38 : decode cX1_change 38 = .ok (.aload_n 0, 1) := by decide +kernel
theorem dX1_change_39 : decode cX1_change 39 = .ok (.iload_n 1, 1) := by decide +kernel
theorem dX1_change_40 : decode cX1_change 40 = .ok (.invokevirtual 130, 3) := by decide +kernel
theorem dX1_change_43 : decode cX1_change 43 = .ok (.ineg, 1) := by decide +kernel
theorem dX1_change_44 : decode cX1_change 44 = .ok (.aload_n 0, 1) := by decide +kernel
theorem dX1_change_45 : decode cX1_change 45 = .ok (.iload_n 2, 1) := by decide +kernel
theorem dX1_change_46 : decode cX1_change 46 = .ok (.invokevirtual 130, 3) := by decide +kernel
theorem dX1_change_49 : decode cX1_change 49 = .ok (.isub, 1) := by decide +kernel
theorem dX1_change_50 : decode cX1_change 50 = .ok (.goto 14, 3) := by decide +kernel
theorem dX1_change_53 : decode cX1_change 53 = .ok (.aload_n 0, 1) := by decide +kernel
theorem dX1_change_54 : decode cX1_change 54 = .ok (.iload_n 1, 1) := by decide +kernel
theorem dX1_change_55 : decode cX1_change 55 = .ok (.invokevirtual 133, 3) := by decide +kernel
theorem dX1_change_58 : decode cX1_change 58 = .ok (.aload_n 0, 1) := by decide +kernel
theorem dX1_change_59 : decode cX1_change 59 = .ok (.iload_n 2, 1) := by decide +kernel
theorem dX1_change_60 : decode cX1_change 60 = .ok (.invokevirtual 133, 3) := by decide +kernel
theorem dX1_change_63 : decode cX1_change 63 = .ok (.iadd, 1) := by decide +kernel
theorem dX1_change_64 : decode cX1_change 64 = .ok (.ireturn, 1) := by decide +kernel
theorem dX2_fading_0 : decode cX2_fading 0 = .ok (.iload_n 0, 1) := by decide +kernel
theorem dX2_fading_1 : decode cX2_fading 1 = .ok (.tableswitch 49 1 5 #[35, 37, 39, 45, 47], 35) := by decide +kernel
theorem dX2_fading_36 : decode cX2_fading 36 = .ok (.iconst 0, 1) := by decide +kernel
theorem dX2_fading_37 : decode cX2_fading 37 = .ok (.ireturn, 1) := by decide +kernel
theorem dX2_fading_38 : decode cX2_fading 38 = .ok (.iconst 2, 1) := by decide +kernel
theorem dX2_fading_39 : decode cX2_fading 39 = .ok (.ireturn, 1) := by decide +kernel
theorem dX2_fading_40 : decode cX2_fading 40 = .ok (.iload_n 1, 1) := by decide +kernel
theorem dX2_fading_41 : decode cX2_fading 41 = .ok (.iconst 2, 1) := by decide +kernel
theorem dX2_fading_42 : decode cX2_fading 42 = .ok (.idiv, 1) := by decide +kernel
theorem dX2_fading_43 : decode cX2_fading 43 = .ok (.iconst 1, 1) := by decide +kernel
theorem dX2_fading_44 : decode cX2_fading 44 = .ok (.iadd, 1) := by decide +kernel
theorem dX2_fading_45 : decode cX2_fading 45 = .ok (.ireturn, 1) := by decide +kernel
theorem dX2_fading_46 : decode cX2_fading 46 = .ok (.iconst 0, 1) := by decide +kernel
theorem dX2_fading_47 : decode cX2_fading 47 = .ok (.ireturn, 1) := by decide +kernel
theorem dX2_fading_48 : decode cX2_fading 48 = .ok (.iconst 3, 1) := by decide +kernel
theorem dX2_fading_49 : decode cX2_fading 49 = .ok (.ireturn, 1) := by decide +kernel
theorem dX2_fading_50 : decode cX2_fading 50 = .ok (.iconst 1, 1) := by decide +kernel
theorem dX2_fading_51 : decode cX2_fading 51 = .ok (.ireturn, 1) := by decide +kernel
theorem dX2_stirring_0 : decode cX2_stirring 0 = .ok (.iload_n 0, 1) := by decide +kernel
theorem dX2_stirring_1 : decode cX2_stirring 1 = .ok (.lookupswitch 35 #[(1, 27), (4, 29)], 27) := by decide +kernel
theorem dX2_stirring_28 : decode cX2_stirring 28 = .ok (.iconst 1, 1) := by decide +kernel
theorem dX2_stirring_29 : decode cX2_stirring 29 = .ok (.ireturn, 1) := by decide +kernel
theorem dX2_stirring_30 : decode cX2_stirring 30 = .ok (.iconst 1, 1) := by decide +kernel
theorem dX2_stirring_31 : decode cX2_stirring 31 = .ok (.iload_n 1, 1) := by decide +kernel
theorem dX2_stirring_32 : decode cX2_stirring 32 = .ok (.iconst 4, 1) := by decide +kernel
theorem dX2_stirring_33 : decode cX2_stirring 33 = .ok (.idiv, 1) := by decide +kernel
theorem dX2_stirring_34 : decode cX2_stirring 34 = .ok (.iadd, 1) := by decide +kernel
theorem dX2_stirring_35 : decode cX2_stirring 35 = .ok (.ireturn, 1) := by decide +kernel
theorem dX2_stirring_36 : decode cX2_stirring 36 = .ok (.iconst 0, 1) := by decide +kernel
theorem dX2_stirring_37 : decode cX2_stirring 37 = .ok (.ireturn, 1) := by decide +kernel
theorem dX2_wage_0 : decode cX2_wage 0 = .ok (.iload_n 1, 1) := by decide +kernel
theorem dX2_wage_1 : decode cX2_wage 1 = .ok (.iconst 1, 1) := by decide +kernel
theorem dX2_wage_2 : decode cX2_wage 2 = .ok (.iadd, 1) := by decide +kernel
theorem dX2_wage_3 : decode cX2_wage 3 = .ok (.istore_n 2, 1) := by decide +kernel
theorem dX2_wage_4 : decode cX2_wage 4 = .ok (.iconst 2, 1) := by decide +kernel
theorem dX2_wage_5 : decode cX2_wage 5 = .ok (.iload_n 2, 1) := by decide +kernel
theorem dX2_wage_6 : decode cX2_wage 6 = .ok (.imul, 1) := by decide +kernel
theorem dX2_wage_7 : decode cX2_wage 7 = .ok (.istore_n 3, 1) := by decide +kernel
theorem dX2_wage_8 : decode cX2_wage 8 = .ok (.iload_n 0, 1) := by decide +kernel
theorem dX2_wage_9 : decode cX2_wage 9 = .ok (.tableswitch 47 1 5 #[35, 37, 39, 41, 45], 35) := by decide +kernel
theorem dX2_wage_44 : decode cX2_wage 44 = .ok (.iload_n 3, 1) := by decide +kernel
theorem dX2_wage_45 : decode cX2_wage 45 = .ok (.ireturn, 1) := by decide +kernel
theorem dX2_wage_46 : decode cX2_wage 46 = .ok (.iconst 5, 1) := by decide +kernel
theorem dX2_wage_47 : decode cX2_wage 47 = .ok (.ireturn, 1) := by decide +kernel
theorem dX2_wage_48 : decode cX2_wage 48 = .ok (.iconst 0, 1) := by decide +kernel
theorem dX2_wage_49 : decode cX2_wage 49 = .ok (.ireturn, 1) := by decide +kernel
theorem dX2_wage_50 : decode cX2_wage 50 = .ok (.iload_n 3, 1) := by decide +kernel
theorem dX2_wage_51 : decode cX2_wage 51 = .ok (.iconst 1, 1) := by decide +kernel
theorem dX2_wage_52 : decode cX2_wage 52 = .ok (.isub, 1) := by decide +kernel
theorem dX2_wage_53 : decode cX2_wage 53 = .ok (.ireturn, 1) := by decide +kernel
theorem dX2_wage_54 : decode cX2_wage 54 = .ok (.iconst 2, 1) := by decide +kernel
theorem dX2_wage_55 : decode cX2_wage 55 = .ok (.ireturn, 1) := by decide +kernel
theorem dX2_wage_56 : decode cX2_wage 56 = .ok (.iload_n 2, 1) := by decide +kernel
theorem dX2_wage_57 : decode cX2_wage 57 = .ok (.ireturn, 1) := by decide +kernel
theorem dX3_init_0 : decode cX3_init 0 = .ok (.aload_n 0, 1) := by decide +kernel
theorem dX3_init_1 : decode cX3_init 1 = .ok (.invokespecial 3, 3) := by decide +kernel
theorem dX3_init_4 : decode cX3_init 4 = .ok (.aload_n 0, 1) := by decide +kernel
theorem dX3_init_5 : decode cX3_init 5 = .ok (.bipush 64, 2) := by decide +kernel
theorem dX3_init_7 : decode cX3_init 7 = .ok (.newarray .int, 2) := by decide +kernel
theorem dX3_init_9 : decode cX3_init 9 = .ok (.putfield 9, 3) := by decide +kernel
theorem dX3_init_12 : decode cX3_init 12 = .ok (.aload_n 0, 1) := by decide +kernel
theorem dX3_init_13 : decode cX3_init 13 = .ok (.aload_n 1, 1) := by decide +kernel
theorem dX3_init_14 : decode cX3_init 14 = .ok (.putfield 15, 3) := by decide +kernel
theorem dX3_init_17 : decode cX3_init 17 = .ok (.return_, 1) := by decide +kernel
theorem dX3_keepersIn_0 : decode cX3_keepersIn 0 = .ok (.iconst 0, 1) := by decide +kernel
theorem dX3_keepersIn_1 : decode cX3_keepersIn 1 = .ok (.istore_n 2, 1) := by decide +kernel
theorem dX3_keepersIn_2 : decode cX3_keepersIn 2 = .ok (.iconst 0, 1) := by decide +kernel
theorem dX3_keepersIn_3 : decode cX3_keepersIn 3 = .ok (.istore_n 3, 1) := by decide +kernel
theorem dX3_keepersIn_4 : decode cX3_keepersIn 4 = .ok (.iload_n 3, 1) := by decide +kernel
theorem dX3_keepersIn_5 : decode cX3_keepersIn 5 = .ok (.aload_n 0, 1) := by decide +kernel
theorem dX3_keepersIn_6 : decode cX3_keepersIn 6 = .ok (.getfield 15, 3) := by decide +kernel
theorem dX3_keepersIn_9 : decode cX3_keepersIn 9 = .ok (.invokevirtual 19, 3) := by decide +kernel
theorem dX3_keepersIn_12 : decode cX3_keepersIn 12 = .ok (.if_icmp .ge 32, 3) := by decide +kernel
theorem dX3_keepersIn_15 : decode cX3_keepersIn 15 = .ok (.iload_n 1, 1) := by decide +kernel
theorem dX3_keepersIn_16 : decode cX3_keepersIn 16 = .ok (.iconst (-1), 1) := by decide +kernel
theorem dX3_keepersIn_17 : decode cX3_keepersIn 17 = .ok (.if_icmp .eq 15, 3) := by decide +kernel
theorem dX3_keepersIn_20 : decode cX3_keepersIn 20 = .ok (.aload_n 0, 1) := by decide +kernel
theorem dX3_keepersIn_21 : decode cX3_keepersIn 21 = .ok (.getfield 15, 3) := by decide +kernel
theorem dX3_keepersIn_24 : decode cX3_keepersIn 24 = .ok (.iload_n 3, 1) := by decide +kernel
theorem dX3_keepersIn_25 : decode cX3_keepersIn 25 = .ok (.invokevirtual 25, 3) := by decide +kernel
theorem dX3_keepersIn_28 : decode cX3_keepersIn 28 = .ok (.iload_n 1, 1) := by decide +kernel
theorem dX3_keepersIn_29 : decode cX3_keepersIn 29 = .ok (.if_icmp .ne 9, 3) := by decide +kernel
theorem dX3_keepersIn_32 : decode cX3_keepersIn 32 = .ok (.iload_n 2, 1) := by decide +kernel
theorem dX3_keepersIn_33 : decode cX3_keepersIn 33 = .ok (.iconst 1, 1) := by decide +kernel
theorem dX3_keepersIn_34 : decode cX3_keepersIn 34 = .ok (.iload_n 3, 1) := by decide +kernel
theorem dX3_keepersIn_35 : decode cX3_keepersIn 35 = .ok (.ishl, 1) := by decide +kernel
theorem dX3_keepersIn_36 : decode cX3_keepersIn 36 = .ok (.ior, 1) := by decide +kernel
theorem dX3_keepersIn_37 : decode cX3_keepersIn 37 = .ok (.istore_n 2, 1) := by decide +kernel
theorem dX3_keepersIn_38 : decode cX3_keepersIn 38 = .ok (.iinc 3 1, 3) := by decide +kernel
theorem dX3_keepersIn_41 : decode cX3_keepersIn 41 = .ok (.goto (-37), 3) := by decide +kernel
theorem dX3_keepersIn_44 : decode cX3_keepersIn 44 = .ok (.iload_n 2, 1) := by decide +kernel
theorem dX3_keepersIn_45 : decode cX3_keepersIn 45 = .ok (.ireturn, 1) := by decide +kernel
theorem dX3_wages_0 : decode cX3_wages 0 = .ok (.iconst 0, 1) := by decide +kernel
theorem dX3_wages_1 : decode cX3_wages 1 = .ok (.istore_n 2, 1) := by decide +kernel
theorem dX3_wages_2 : decode cX3_wages 2 = .ok (.iconst 0, 1) := by decide +kernel
theorem dX3_wages_3 : decode cX3_wages 3 = .ok (.istore_n 3, 1) := by decide +kernel
theorem dX3_wages_4 : decode cX3_wages 4 = .ok (.iload_n 3, 1) := by decide +kernel
theorem dX3_wages_5 : decode cX3_wages 5 = .ok (.aload_n 0, 1) := by decide +kernel
theorem dX3_wages_6 : decode cX3_wages 6 = .ok (.getfield 15, 3) := by decide +kernel
theorem dX3_wages_9 : decode cX3_wages 9 = .ok (.invokevirtual 19, 3) := by decide +kernel
theorem dX3_wages_12 : decode cX3_wages 12 = .ok (.if_icmp .ge 29, 3) := by decide +kernel
theorem dX3_wages_15 : decode cX3_wages 15 = .ok (.iload_n 1, 1) := by decide +kernel
theorem dX3_wages_16 : decode cX3_wages 16 = .ok (.iload_n 3, 1) := by decide +kernel
theorem dX3_wages_17 : decode cX3_wages 17 = .ok (.invokestatic 29, 3) := by decide +kernel
theorem dX3_wages_20 : decode cX3_wages 20 = .ok (.iconst 1, 1) := by decide +kernel
theorem dX3_wages_21 : decode cX3_wages 21 = .ok (.if_icmp .ne 14, 3) := by decide +kernel
theorem dX3_wages_24 : decode cX3_wages 24 = .ok (.iload_n 2, 1) := by decide +kernel
theorem dX3_wages_25 : decode cX3_wages 25 = .ok (.aload_n 0, 1) := by decide +kernel
theorem dX3_wages_26 : decode cX3_wages 26 = .ok (.getfield 15, 3) := by decide +kernel
theorem dX3_wages_29 : decode cX3_wages 29 = .ok (.iload_n 3, 1) := by decide +kernel
theorem dX3_wages_30 : decode cX3_wages 30 = .ok (.invokevirtual 33, 3) := by decide +kernel
theorem dX3_wages_33 : decode cX3_wages 33 = .ok (.iadd, 1) := by decide +kernel
theorem dX3_wages_34 : decode cX3_wages 34 = .ok (.istore_n 2, 1) := by decide +kernel
theorem dX3_wages_35 : decode cX3_wages 35 = .ok (.iinc 3 1, 3) := by decide +kernel
theorem dX3_wages_38 : decode cX3_wages 38 = .ok (.goto (-34), 3) := by decide +kernel
theorem dX3_wages_41 : decode cX3_wages 41 = .ok (.iload_n 2, 1) := by decide +kernel
theorem dX3_wages_42 : decode cX3_wages 42 = .ok (.ireturn, 1) := by decide +kernel
theorem dX3_crowd_0 : decode cX3_crowd 0 = .ok (.aload_n 0, 1) := by decide +kernel
theorem dX3_crowd_1 : decode cX3_crowd 1 = .ok (.iload_n 1, 1) := by decide +kernel
theorem dX3_crowd_2 : decode cX3_crowd 2 = .ok (.invokevirtual 36, 3) := by decide +kernel
theorem dX3_crowd_5 : decode cX3_crowd 5 = .ok (.invokestatic 39, 3) := by decide +kernel
theorem dX3_crowd_8 : decode cX3_crowd 8 = .ok (.ireturn, 1) := by decide +kernel
theorem dX3_townOfMost_0 : decode cX3_townOfMost 0 = .ok (.iconst 0, 1) := by decide +kernel
theorem dX3_townOfMost_1 : decode cX3_townOfMost 1 = .ok (.istore_n 1, 1) := by decide +kernel
theorem dX3_townOfMost_2 : decode cX3_townOfMost 2 = .ok (.iconst 1, 1) := by decide +kernel
theorem dX3_townOfMost_3 : decode cX3_townOfMost 3 = .ok (.istore_n 2, 1) := by decide +kernel
theorem dX3_townOfMost_4 : decode cX3_townOfMost 4 = .ok (.iload_n 2, 1) := by decide +kernel
theorem dX3_townOfMost_5 : decode cX3_townOfMost 5 = .ok (.iconst 4, 1) := by decide +kernel
theorem dX3_townOfMost_6 : decode cX3_townOfMost 6 = .ok (.if_icmp .ge 24, 3) := by decide +kernel
theorem dX3_townOfMost_9 : decode cX3_townOfMost 9 = .ok (.aload_n 0, 1) := by decide +kernel
theorem dX3_townOfMost_10 : decode cX3_townOfMost 10 = .ok (.iload_n 2, 1) := by decide +kernel
theorem dX3_townOfMost_11 : decode cX3_townOfMost 11 = .ok (.invokevirtual 44, 3) := by decide +kernel
theorem dX3_townOfMost_14 : decode cX3_townOfMost 14 = .ok (.aload_n 0, 1) := by decide +kernel
theorem dX3_townOfMost_15 : decode cX3_townOfMost 15 = .ok (.iload_n 1, 1) := by decide +kernel
theorem dX3_townOfMost_16 : decode cX3_townOfMost 16 = .ok (.invokevirtual 44, 3) := by decide +kernel
theorem dX3_townOfMost_19 : decode cX3_townOfMost 19 = .ok (.if_icmp .le 5, 3) := by decide +kernel
theorem dX3_townOfMost_22 : decode cX3_townOfMost 22 = .ok (.iload_n 2, 1) := by decide +kernel
theorem dX3_townOfMost_23 : decode cX3_townOfMost 23 = .ok (.istore_n 1, 1) := by decide +kernel
theorem dX3_townOfMost_24 : decode cX3_townOfMost 24 = .ok (.iinc 2 1, 3) := by decide +kernel
theorem dX3_townOfMost_27 : decode cX3_townOfMost 27 = .ok (.goto (-23), 3) := by decide +kernel
theorem dX3_townOfMost_30 : decode cX3_townOfMost 30 = .ok (.iload_n 1, 1) := by decide +kernel
theorem dX3_townOfMost_31 : decode cX3_townOfMost 31 = .ok (.ireturn, 1) := by decide +kernel
theorem dX3_mostHateIn_0 : decode cX3_mostHateIn 0 = .ok (.bipush (-9), 2) := by decide +kernel
theorem dX3_mostHateIn_2 : decode cX3_mostHateIn 2 = .ok (.istore_n 2, 1) := by decide +kernel
theorem dX3_mostHateIn_3 : decode cX3_mostHateIn 3 = .ok (.iconst 0, 1) := by decide +kernel
theorem dX3_mostHateIn_4 : decode cX3_mostHateIn 4 = .ok (.istore_n 3, 1) := by decide +kernel
theorem dX3_mostHateIn_5 : decode cX3_mostHateIn 5 = .ok (.iload_n 3, 1) := by decide +kernel
theorem dX3_mostHateIn_6 : decode cX3_mostHateIn 6 = .ok (.aload_n 0, 1) := by decide +kernel
theorem dX3_mostHateIn_7 : decode cX3_mostHateIn 7 = .ok (.getfield 15, 3) := by decide +kernel
theorem dX3_mostHateIn_10 : decode cX3_mostHateIn 10 = .ok (.invokevirtual 19, 3) := by decide +kernel
theorem dX3_mostHateIn_13 : decode cX3_mostHateIn 13 = .ok (.if_icmp .ge 61, 3) := by decide +kernel
theorem dX3_mostHateIn_16 : decode cX3_mostHateIn 16 = .ok (.iload_n 3, 1) := by decide +kernel
theorem dX3_mostHateIn_17 : decode cX3_mostHateIn 17 = .ok (.iconst 1, 1) := by decide +kernel
theorem dX3_mostHateIn_18 : decode cX3_mostHateIn 18 = .ok (.iadd, 1) := by decide +kernel
theorem dX3_mostHateIn_19 : decode cX3_mostHateIn 19 = .ok (.istore 4, 2) := by decide +kernel
theorem dX3_mostHateIn_21 : decode cX3_mostHateIn 21 = .ok (.iload 4, 2) := by decide +kernel
theorem dX3_mostHateIn_23 : decode cX3_mostHateIn 23 = .ok (.aload_n 0, 1) := by decide +kernel
theorem dX3_mostHateIn_24 : decode cX3_mostHateIn 24 = .ok (.getfield 15, 3) := by decide +kernel
theorem dX3_mostHateIn_27 : decode cX3_mostHateIn 27 = .ok (.invokevirtual 19, 3) := by decide +kernel
theorem dX3_mostHateIn_30 : decode cX3_mostHateIn 30 = .ok (.if_icmp .ge 38, 3) := by decide +kernel
theorem dX3_mostHateIn_33 : decode cX3_mostHateIn 33 = .ok (.aload_n 0, 1) := by decide +kernel
theorem dX3_mostHateIn_34 : decode cX3_mostHateIn 34 = .ok (.getfield 15, 3) := by decide +kernel
theorem dX3_mostHateIn_37 : decode cX3_mostHateIn 37 = .ok (.iload_n 1, 1) := by decide +kernel
theorem dX3_mostHateIn_38 : decode cX3_mostHateIn 38 = .ok (.iload_n 3, 1) := by decide +kernel
theorem dX3_mostHateIn_39 : decode cX3_mostHateIn 39 = .ok (.iload 4, 2) := by decide +kernel
theorem dX3_mostHateIn_41 : decode cX3_mostHateIn 41 = .ok (.invokevirtual 47, 3) := by decide +kernel
theorem dX3_mostHateIn_44 : decode cX3_mostHateIn 44 = .ok (.ifCond .eq 18, 3) := by decide +kernel
theorem dX3_mostHateIn_47 : decode cX3_mostHateIn 47 = .ok (.iload_n 2, 1) := by decide +kernel
theorem dX3_mostHateIn_48 : decode cX3_mostHateIn 48 = .ok (.aload_n 0, 1) := by decide +kernel
theorem dX3_mostHateIn_49 : decode cX3_mostHateIn 49 = .ok (.getfield 15, 3) := by decide +kernel
theorem dX3_mostHateIn_52 : decode cX3_mostHateIn 52 = .ok (.iload_n 3, 1) := by decide +kernel
theorem dX3_mostHateIn_53 : decode cX3_mostHateIn 53 = .ok (.iload 4, 2) := by decide +kernel
theorem dX3_mostHateIn_55 : decode cX3_mostHateIn 55 = .ok (.invokevirtual 51, 3) := by decide +kernel
theorem dX3_mostHateIn_58 : decode cX3_mostHateIn 58 = .ok (.invokestatic 54, 3) := by decide +kernel
theorem dX3_mostHateIn_61 : decode cX3_mostHateIn 61 = .ok (.istore_n 2, 1) := by decide +kernel
theorem dX3_mostHateIn_62 : decode cX3_mostHateIn 62 = .ok (.iinc 4 1, 3) := by decide +kernel
theorem dX3_mostHateIn_65 : decode cX3_mostHateIn 65 = .ok (.goto (-44), 3) := by decide +kernel
theorem dX3_mostHateIn_68 : decode cX3_mostHateIn 68 = .ok (.iinc 3 1, 3) := by decide +kernel
theorem dX3_mostHateIn_71 : decode cX3_mostHateIn 71 = .ok (.goto (-66), 3) := by decide +kernel
theorem dX3_mostHateIn_74 : decode cX3_mostHateIn 74 = .ok (.iload_n 2, 1) := by decide +kernel
theorem dX3_mostHateIn_75 : decode cX3_mostHateIn 75 = .ok (.ireturn, 1) := by decide +kernel
theorem dX3_townsThatOpen_0 : decode cX3_townsThatOpen 0 = .ok (.iconst 0, 1) := by decide +kernel
theorem dX3_townsThatOpen_1 : decode cX3_townsThatOpen 1 = .ok (.istore_n 2, 1) := by decide +kernel
theorem dX3_townsThatOpen_2 : decode cX3_townsThatOpen 2 = .ok (.iconst 0, 1) := by decide +kernel
theorem dX3_townsThatOpen_3 : decode cX3_townsThatOpen 3 = .ok (.istore_n 3, 1) := by decide +kernel
theorem dX3_townsThatOpen_4 : decode cX3_townsThatOpen 4 = .ok (.iload_n 3, 1) := by decide +kernel
theorem dX3_townsThatOpen_5 : decode cX3_townsThatOpen 5 = .ok (.iconst 4, 1) := by decide +kernel
theorem dX3_townsThatOpen_6 : decode cX3_townsThatOpen 6 = .ok (.if_icmp .ge 24, 3) := by decide +kernel
theorem dX3_townsThatOpen_9 : decode cX3_townsThatOpen 9 = .ok (.aload_n 0, 1) := by decide +kernel
theorem dX3_townsThatOpen_10 : decode cX3_townsThatOpen 10 = .ok (.iload_n 3, 1) := by decide +kernel
theorem dX3_townsThatOpen_11 : decode cX3_townsThatOpen 11 = .ok (.invokevirtual 59, 3) := by decide +kernel
theorem dX3_townsThatOpen_14 : decode cX3_townsThatOpen 14 = .ok (.iload_n 1, 1) := by decide +kernel
theorem dX3_townsThatOpen_15 : decode cX3_townsThatOpen 15 = .ok (.if_icmp .lt 9, 3) := by decide +kernel
theorem dX3_townsThatOpen_18 : decode cX3_townsThatOpen 18 = .ok (.iload_n 2, 1) := by decide +kernel
theorem dX3_townsThatOpen_19 : decode cX3_townsThatOpen 19 = .ok (.iconst 1, 1) := by decide +kernel
theorem dX3_townsThatOpen_20 : decode cX3_townsThatOpen 20 = .ok (.iload_n 3, 1) := by decide +kernel
theorem dX3_townsThatOpen_21 : decode cX3_townsThatOpen 21 = .ok (.ishl, 1) := by decide +kernel
theorem dX3_townsThatOpen_22 : decode cX3_townsThatOpen 22 = .ok (.ior, 1) := by decide +kernel
theorem dX3_townsThatOpen_23 : decode cX3_townsThatOpen 23 = .ok (.istore_n 2, 1) := by decide +kernel
theorem dX3_townsThatOpen_24 : decode cX3_townsThatOpen 24 = .ok (.iinc 3 1, 3) := by decide +kernel
theorem dX3_townsThatOpen_27 : decode cX3_townsThatOpen 27 = .ok (.goto (-23), 3) := by decide +kernel
theorem dX3_townsThatOpen_30 : decode cX3_townsThatOpen 30 = .ok (.iload_n 2, 1) := by decide +kernel
theorem dX3_townsThatOpen_31 : decode cX3_townsThatOpen 31 = .ok (.ireturn, 1) := by decide +kernel
theorem dX3_mostTwos_0 : decode cX3_mostTwos 0 = .ok (.iconst 0, 1) := by decide +kernel
theorem dX3_mostTwos_1 : decode cX3_mostTwos 1 = .ok (.istore_n 2, 1) := by decide +kernel
theorem dX3_mostTwos_2 : decode cX3_mostTwos 2 = .ok (.iload_n 2, 1) := by decide +kernel
theorem dX3_mostTwos_3 : decode cX3_mostTwos 3 = .ok (.aload_n 0, 1) := by decide +kernel
theorem dX3_mostTwos_4 : decode cX3_mostTwos 4 = .ok (.getfield 15, 3) := by decide +kernel
theorem dX3_mostTwos_7 : decode cX3_mostTwos 7 = .ok (.invokevirtual 19, 3) := by decide +kernel
theorem dX3_mostTwos_10 : decode cX3_mostTwos 10 = .ok (.if_icmp .ge 43, 3) := by decide +kernel
theorem dX3_mostTwos_13 : decode cX3_mostTwos 13 = .ok (.iconst 0, 1) := by decide +kernel
theorem dX3_mostTwos_14 : decode cX3_mostTwos 14 = .ok (.istore_n 3, 1) := by decide +kernel
theorem dX3_mostTwos_15 : decode cX3_mostTwos 15 = .ok (.iload_n 3, 1) := by decide +kernel
theorem dX3_mostTwos_16 : decode cX3_mostTwos 16 = .ok (.iconst 1, 1) := by decide +kernel
theorem dX3_mostTwos_17 : decode cX3_mostTwos 17 = .ok (.iload_n 2, 1) := by decide +kernel
theorem dX3_mostTwos_18 : decode cX3_mostTwos 18 = .ok (.ishl, 1) := by decide +kernel
theorem dX3_mostTwos_19 : decode cX3_mostTwos 19 = .ok (.if_icmp .ge 28, 3) := by decide +kernel
theorem dX3_mostTwos_22 : decode cX3_mostTwos 22 = .ok (.aload_n 0, 1) := by decide +kernel
theorem dX3_mostTwos_23 : decode cX3_mostTwos 23 = .ok (.getfield 9, 3) := by decide +kernel
theorem dX3_mostTwos_26 : decode cX3_mostTwos 26 = .ok (.iload_n 3, 1) := by decide +kernel
theorem dX3_mostTwos_27 : decode cX3_mostTwos 27 = .ok (.iconst 1, 1) := by decide +kernel
theorem dX3_mostTwos_28 : decode cX3_mostTwos 28 = .ok (.iload_n 2, 1) := by decide +kernel
theorem dX3_mostTwos_29 : decode cX3_mostTwos 29 = .ok (.ishl, 1) := by decide +kernel
theorem dX3_mostTwos_30 : decode cX3_mostTwos 30 = .ok (.ior, 1) := by decide +kernel
theorem dX3_mostTwos_31 : decode cX3_mostTwos 31 = .ok (.aload_n 0, 1) := by decide +kernel
theorem dX3_mostTwos_32 : decode cX3_mostTwos 32 = .ok (.iload_n 2, 1) := by decide +kernel
theorem dX3_mostTwos_33 : decode cX3_mostTwos 33 = .ok (.iload_n 3, 1) := by decide +kernel
theorem dX3_mostTwos_34 : decode cX3_mostTwos 34 = .ok (.iload_n 1, 1) := by decide +kernel
theorem dX3_mostTwos_35 : decode cX3_mostTwos 35 = .ok (.invokevirtual 62, 3) := by decide +kernel
theorem dX3_mostTwos_38 : decode cX3_mostTwos 38 = .ok (.invokestatic 66, 3) := by decide +kernel
theorem dX3_mostTwos_41 : decode cX3_mostTwos 41 = .ok (.iinc 3 1, 3) := by decide +kernel
theorem dX3_mostTwos_44 : decode cX3_mostTwos 44 = .ok (.goto (-29), 3) := by decide +kernel
theorem dX3_mostTwos_47 : decode cX3_mostTwos 47 = .ok (.iinc 2 1, 3) := by decide +kernel
theorem dX3_mostTwos_50 : decode cX3_mostTwos 50 = .ok (.goto (-48), 3) := by decide +kernel
theorem dX3_mostTwos_53 : decode cX3_mostTwos 53 = .ok (.aload_n 0, 1) := by decide +kernel
theorem dX3_mostTwos_54 : decode cX3_mostTwos 54 = .ok (.getfield 9, 3) := by decide +kernel
theorem dX3_mostTwos_57 : decode cX3_mostTwos 57 = .ok (.iconst 1, 1) := by decide +kernel
theorem dX3_mostTwos_58 : decode cX3_mostTwos 58 = .ok (.aload_n 0, 1) := by decide +kernel
theorem dX3_mostTwos_59 : decode cX3_mostTwos 59 = .ok (.getfield 15, 3) := by decide +kernel
theorem dX3_mostTwos_62 : decode cX3_mostTwos 62 = .ok (.invokevirtual 19, 3) := by decide +kernel
theorem dX3_mostTwos_65 : decode cX3_mostTwos 65 = .ok (.ishl, 1) := by decide +kernel
theorem dX3_mostTwos_66 : decode cX3_mostTwos 66 = .ok (.iconst 1, 1) := by decide +kernel
theorem dX3_mostTwos_67 : decode cX3_mostTwos 67 = .ok (.isub, 1) := by decide +kernel
theorem dX3_mostTwos_68 : decode cX3_mostTwos 68 = .ok (.invokestatic 70, 3) := by decide +kernel
theorem dX3_mostTwos_71 : decode cX3_mostTwos 71 = .ok (.ireturn, 1) := by decide +kernel
theorem dX3_mostTwosWith_0 : decode cX3_mostTwosWith 0 = .ok (.aload_n 0, 1) := by decide +kernel
theorem dX3_mostTwosWith_1 : decode cX3_mostTwosWith 1 = .ok (.getfield 9, 3) := by decide +kernel
theorem dX3_mostTwosWith_4 : decode cX3_mostTwosWith 4 = .ok (.iload_n 2, 1) := by decide +kernel
theorem dX3_mostTwosWith_5 : decode cX3_mostTwosWith 5 = .ok (.invokestatic 70, 3) := by decide +kernel
theorem dX3_mostTwosWith_8 : decode cX3_mostTwosWith 8 = .ok (.istore 4, 2) := by decide +kernel
theorem dX3_mostTwosWith_10 : decode cX3_mostTwosWith 10 = .ok (.iconst 0, 1) := by decide +kernel
theorem dX3_mostTwosWith_11 : decode cX3_mostTwosWith 11 = .ok (.istore 5, 2) := by decide +kernel
theorem dX3_mostTwosWith_13 : decode cX3_mostTwosWith 13 = .ok (.iload 5, 2) := by decide +kernel
theorem dX3_mostTwosWith_15 : decode cX3_mostTwosWith 15 = .ok (.iload_n 1, 1) := by decide +kernel
theorem dX3_mostTwosWith_16 : decode cX3_mostTwosWith 16 = .ok (.if_icmp .ge 89, 3) := by decide +kernel
theorem dX3_mostTwosWith_19 : decode cX3_mostTwosWith 19 = .ok (.aload_n 0, 1) := by decide +kernel
theorem dX3_mostTwosWith_20 : decode cX3_mostTwosWith 20 = .ok (.getfield 15, 3) := by decide +kernel
theorem dX3_mostTwosWith_23 : decode cX3_mostTwosWith 23 = .ok (.iload 5, 2) := by decide +kernel
theorem dX3_mostTwosWith_25 : decode cX3_mostTwosWith 25 = .ok (.invokevirtual 25, 3) := by decide +kernel
theorem dX3_mostTwosWith_28 : decode cX3_mostTwosWith 28 = .ok (.aload_n 0, 1) := by decide +kernel
theorem dX3_mostTwosWith_29 : decode cX3_mostTwosWith 29 = .ok (.getfield 15, 3) := by decide +kernel
theorem dX3_mostTwosWith_32 : decode cX3_mostTwosWith 32 = .ok (.iload_n 1, 1) := by decide +kernel
theorem dX3_mostTwosWith_33 : decode cX3_mostTwosWith 33 = .ok (.invokevirtual 25, 3) := by decide +kernel
theorem dX3_mostTwosWith_36 : decode cX3_mostTwosWith 36 = .ok (.if_icmp .ne 7, 3) := by decide +kernel
theorem dX3_mostTwosWith_39 : decode cX3_mostTwosWith 39 = .ok (.iconst 1, 1) := by decide +kernel
theorem dX3_mostTwosWith_40 : decode cX3_mostTwosWith 40 = .ok (.goto 4, 3) := by decide +kernel
theorem dX3_mostTwosWith_43 : decode cX3_mostTwosWith 43 = .ok (.iconst 0, 1) := by decide +kernel
theorem dX3_mostTwosWith_44 : decode cX3_mostTwosWith 44 = .ok (.istore 6, 2) := by decide +kernel
theorem dX3_mostTwosWith_46 : decode cX3_mostTwosWith 46 = .ok (.iload_n 2, 1) := by decide +kernel
theorem dX3_mostTwosWith_47 : decode cX3_mostTwosWith 47 = .ok (.iload 5, 2) := by decide +kernel
theorem dX3_mostTwosWith_49 : decode cX3_mostTwosWith 49 = .ok (.invokestatic 29, 3) := by decide +kernel
theorem dX3_mostTwosWith_52 : decode cX3_mostTwosWith 52 = .ok (.iconst 1, 1) := by decide +kernel
theorem dX3_mostTwosWith_53 : decode cX3_mostTwosWith 53 = .ok (.if_icmp .ne 46, 3) := by decide +kernel
theorem dX3_mostTwosWith_56 : decode cX3_mostTwosWith 56 = .ok (.iload 6, 2) := by decide +kernel
theorem dX3_mostTwosWith_58 : decode cX3_mostTwosWith 58 = .ok (.ifCond .eq 41, 3) := by decide +kernel
theorem dX3_mostTwosWith_61 : decode cX3_mostTwosWith 61 = .ok (.aload_n 0, 1) := by decide +kernel
theorem dX3_mostTwosWith_62 : decode cX3_mostTwosWith 62 = .ok (.getfield 15, 3) := by decide +kernel
theorem dX3_mostTwosWith_65 : decode cX3_mostTwosWith 65 = .ok (.iload 5, 2) := by decide +kernel
theorem dX3_mostTwosWith_67 : decode cX3_mostTwosWith 67 = .ok (.iload_n 1, 1) := by decide +kernel
theorem dX3_mostTwosWith_68 : decode cX3_mostTwosWith 68 = .ok (.invokevirtual 51, 3) := by decide +kernel
theorem dX3_mostTwosWith_71 : decode cX3_mostTwosWith 71 = .ok (.iload_n 3, 1) := by decide +kernel
theorem dX3_mostTwosWith_72 : decode cX3_mostTwosWith 72 = .ok (.if_icmp .lt 27, 3) := by decide +kernel
theorem dX3_mostTwosWith_75 : decode cX3_mostTwosWith 75 = .ok (.iload 4, 2) := by decide +kernel
theorem dX3_mostTwosWith_77 : decode cX3_mostTwosWith 77 = .ok (.iconst 1, 1) := by decide +kernel
theorem dX3_mostTwosWith_78 : decode cX3_mostTwosWith 78 = .ok (.aload_n 0, 1) := by decide +kernel
theorem dX3_mostTwosWith_79 : decode cX3_mostTwosWith 79 = .ok (.getfield 9, 3) := by decide +kernel
theorem dX3_mostTwosWith_82 : decode cX3_mostTwosWith 82 = .ok (.iload_n 2, 1) := by decide +kernel
theorem dX3_mostTwosWith_83 : decode cX3_mostTwosWith 83 = .ok (.iconst 1, 1) := by decide +kernel
theorem dX3_mostTwosWith_84 : decode cX3_mostTwosWith 84 = .ok (.iload 5, 2) := by decide +kernel
theorem dX3_mostTwosWith_86 : decode cX3_mostTwosWith 86 = .ok (.ishl, 1) := by decide +kernel
theorem dX3_mostTwosWith_87 : decode cX3_mostTwosWith 87 = .ok (.iconst (-1), 1) := by decide +kernel
theorem dX3_mostTwosWith_88 : decode cX3_mostTwosWith 88 = .ok (.ixor, 1) := by decide +kernel
theorem dX3_mostTwosWith_89 : decode cX3_mostTwosWith 89 = .ok (.iand, 1) := by decide +kernel
theorem dX3_mostTwosWith_90 : decode cX3_mostTwosWith 90 = .ok (.invokestatic 70, 3) := by decide +kernel
theorem dX3_mostTwosWith_93 : decode cX3_mostTwosWith 93 = .ok (.iadd, 1) := by decide +kernel
theorem dX3_mostTwosWith_94 : decode cX3_mostTwosWith 94 = .ok (.invokestatic 54, 3) := by decide +kernel
theorem dX3_mostTwosWith_97 : decode cX3_mostTwosWith 97 = .ok (.istore 4, 2) := by decide +kernel
theorem dX3_mostTwosWith_99 : decode cX3_mostTwosWith 99 = .ok (.iinc 5 1, 3) := by decide +kernel
theorem dX3_mostTwosWith_102 : decode cX3_mostTwosWith 102 = .ok (.goto (-89), 3) := by decide +kernel
theorem dX3_mostTwosWith_105 : decode cX3_mostTwosWith 105 = .ok (.iload 4, 2) := by decide +kernel
theorem dX3_mostTwosWith_107 : decode cX3_mostTwosWith 107 = .ok (.ireturn, 1) := by decide +kernel
theorem dX3_worstTwo_0 : decode cX3_worstTwo 0 = .ok (.bipush (-9), 2) := by decide +kernel
theorem dX3_worstTwo_2 : decode cX3_worstTwo 2 = .ok (.istore_n 2, 1) := by decide +kernel
theorem dX3_worstTwo_3 : decode cX3_worstTwo 3 = .ok (.bipush (-9), 2) := by decide +kernel
theorem dX3_worstTwo_5 : decode cX3_worstTwo 5 = .ok (.istore_n 3, 1) := by decide +kernel
theorem dX3_worstTwo_6 : decode cX3_worstTwo 6 = .ok (.iconst 0, 1) := by decide +kernel
theorem dX3_worstTwo_7 : decode cX3_worstTwo 7 = .ok (.istore 4, 2) := by decide +kernel
theorem dX3_worstTwo_9 : decode cX3_worstTwo 9 = .ok (.iload 4, 2) := by decide +kernel
theorem dX3_worstTwo_11 : decode cX3_worstTwo 11 = .ok (.aload_n 0, 1) := by decide +kernel
theorem dX3_worstTwo_12 : decode cX3_worstTwo 12 = .ok (.getfield 15, 3) := by decide +kernel
theorem dX3_worstTwo_15 : decode cX3_worstTwo 15 = .ok (.invokevirtual 19, 3) := by decide +kernel
theorem dX3_worstTwo_18 : decode cX3_worstTwo 18 = .ok (.if_icmp .ge 68, 3) := by decide +kernel
theorem dX3_worstTwo_21 : decode cX3_worstTwo 21 = .ok (.iload 4, 2) := by decide +kernel
theorem dX3_worstTwo_23 : decode cX3_worstTwo 23 = .ok (.iconst 1, 1) := by decide +kernel
theorem dX3_worstTwo_24 : decode cX3_worstTwo 24 = .ok (.iadd, 1) := by decide +kernel
theorem dX3_worstTwo_25 : decode cX3_worstTwo 25 = .ok (.istore 5, 2) := by decide +kernel
theorem dX3_worstTwo_27 : decode cX3_worstTwo 27 = .ok (.iload 5, 2) := by decide +kernel
theorem dX3_worstTwo_29 : decode cX3_worstTwo 29 = .ok (.aload_n 0, 1) := by decide +kernel
theorem dX3_worstTwo_30 : decode cX3_worstTwo 30 = .ok (.getfield 15, 3) := by decide +kernel
theorem dX3_worstTwo_33 : decode cX3_worstTwo 33 = .ok (.invokevirtual 19, 3) := by decide +kernel
theorem dX3_worstTwo_36 : decode cX3_worstTwo 36 = .ok (.if_icmp .ge 44, 3) := by decide +kernel
theorem dX3_worstTwo_39 : decode cX3_worstTwo 39 = .ok (.aload_n 0, 1) := by decide +kernel
theorem dX3_worstTwo_40 : decode cX3_worstTwo 40 = .ok (.getfield 15, 3) := by decide +kernel
theorem dX3_worstTwo_43 : decode cX3_worstTwo 43 = .ok (.iload 4, 2) := by decide +kernel
theorem dX3_worstTwo_45 : decode cX3_worstTwo 45 = .ok (.iload 5, 2) := by decide +kernel
theorem dX3_worstTwo_47 : decode cX3_worstTwo 47 = .ok (.invokevirtual 51, 3) := by decide +kernel
theorem dX3_worstTwo_50 : decode cX3_worstTwo 50 = .ok (.iload_n 3, 1) := by decide +kernel
theorem dX3_worstTwo_51 : decode cX3_worstTwo 51 = .ok (.if_icmp .le 23, 3) := by decide +kernel
theorem dX3_worstTwo_54 : decode cX3_worstTwo 54 = .ok (.aload_n 0, 1) := by decide +kernel
theorem dX3_worstTwo_55 : decode cX3_worstTwo 55 = .ok (.getfield 15, 3) := by decide +kernel
theorem dX3_worstTwo_58 : decode cX3_worstTwo 58 = .ok (.iload 4, 2) := by decide +kernel
theorem dX3_worstTwo_60 : decode cX3_worstTwo 60 = .ok (.iload 5, 2) := by decide +kernel
theorem dX3_worstTwo_62 : decode cX3_worstTwo 62 = .ok (.invokevirtual 51, 3) := by decide +kernel
theorem dX3_worstTwo_65 : decode cX3_worstTwo 65 = .ok (.istore_n 3, 1) := by decide +kernel
theorem dX3_worstTwo_66 : decode cX3_worstTwo 66 = .ok (.iload 4, 2) := by decide +kernel
theorem dX3_worstTwo_68 : decode cX3_worstTwo 68 = .ok (.iload 5, 2) := by decide +kernel
theorem dX3_worstTwo_70 : decode cX3_worstTwo 70 = .ok (.invokestatic 74, 3) := by decide +kernel
theorem dX3_worstTwo_73 : decode cX3_worstTwo 73 = .ok (.istore_n 2, 1) := by decide +kernel
theorem dX3_worstTwo_74 : decode cX3_worstTwo 74 = .ok (.iinc 5 1, 3) := by decide +kernel
theorem dX3_worstTwo_77 : decode cX3_worstTwo 77 = .ok (.goto (-50), 3) := by decide +kernel
theorem dX3_worstTwo_80 : decode cX3_worstTwo 80 = .ok (.iinc 4 1, 3) := by decide +kernel
theorem dX3_worstTwo_83 : decode cX3_worstTwo 83 = .ok (.goto (-74), 3) := by decide +kernel
theorem dX3_worstTwo_86 : decode cX3_worstTwo 86 = .ok (.iload_n 1, 1) := by decide +kernel
theorem dX3_worstTwo_87 : decode cX3_worstTwo 87 = .ok (.ifCond .eq 7, 3) := by decide +kernel
theorem dX3_worstTwo_90 : decode cX3_worstTwo 90 = .ok (.iload_n 2, 1) := by decide +kernel
theorem dX3_worstTwo_91 : decode cX3_worstTwo 91 = .ok (.goto 4, 3) := by decide +kernel
theorem dX3_worstTwo_94 : decode cX3_worstTwo 94 = .ok (.iload_n 3, 1) := by decide +kernel
theorem dX3_worstTwo_95 : decode cX3_worstTwo 95 = .ok (.ireturn, 1) := by decide +kernel
theorem dX3_friends_0 : decode cX3_friends 0 = .ok (.iconst 0, 1) := by decide +kernel
theorem dX3_friends_1 : decode cX3_friends 1 = .ok (.istore_n 1, 1) := by decide +kernel
theorem dX3_friends_2 : decode cX3_friends 2 = .ok (.iconst 0, 1) := by decide +kernel
theorem dX3_friends_3 : decode cX3_friends 3 = .ok (.istore_n 2, 1) := by decide +kernel
theorem dX3_friends_4 : decode cX3_friends 4 = .ok (.iload_n 2, 1) := by decide +kernel
theorem dX3_friends_5 : decode cX3_friends 5 = .ok (.aload_n 0, 1) := by decide +kernel
theorem dX3_friends_6 : decode cX3_friends 6 = .ok (.getfield 15, 3) := by decide +kernel
theorem dX3_friends_9 : decode cX3_friends 9 = .ok (.invokevirtual 19, 3) := by decide +kernel
theorem dX3_friends_12 : decode cX3_friends 12 = .ok (.if_icmp .ge 45, 3) := by decide +kernel
theorem dX3_friends_15 : decode cX3_friends 15 = .ok (.iload_n 2, 1) := by decide +kernel
theorem dX3_friends_16 : decode cX3_friends 16 = .ok (.iconst 1, 1) := by decide +kernel
theorem dX3_friends_17 : decode cX3_friends 17 = .ok (.iadd, 1) := by decide +kernel
theorem dX3_friends_18 : decode cX3_friends 18 = .ok (.istore_n 3, 1) := by decide +kernel
theorem dX3_friends_19 : decode cX3_friends 19 = .ok (.iload_n 3, 1) := by decide +kernel
theorem dX3_friends_20 : decode cX3_friends 20 = .ok (.aload_n 0, 1) := by decide +kernel
theorem dX3_friends_21 : decode cX3_friends 21 = .ok (.getfield 15, 3) := by decide +kernel
theorem dX3_friends_24 : decode cX3_friends 24 = .ok (.invokevirtual 19, 3) := by decide +kernel
theorem dX3_friends_27 : decode cX3_friends 27 = .ok (.if_icmp .ge 24, 3) := by decide +kernel
theorem dX3_friends_30 : decode cX3_friends 30 = .ok (.aload_n 0, 1) := by decide +kernel
theorem dX3_friends_31 : decode cX3_friends 31 = .ok (.getfield 15, 3) := by decide +kernel
theorem dX3_friends_34 : decode cX3_friends 34 = .ok (.iload_n 2, 1) := by decide +kernel
theorem dX3_friends_35 : decode cX3_friends 35 = .ok (.iload_n 3, 1) := by decide +kernel
theorem dX3_friends_36 : decode cX3_friends 36 = .ok (.invokevirtual 51, 3) := by decide +kernel
theorem dX3_friends_39 : decode cX3_friends 39 = .ok (.ifCond .ne 6, 3) := by decide +kernel
theorem dX3_friends_42 : decode cX3_friends 42 = .ok (.iinc 1 1, 3) := by decide +kernel
theorem dX3_friends_45 : decode cX3_friends 45 = .ok (.iinc 3 1, 3) := by decide +kernel
theorem dX3_friends_48 : decode cX3_friends 48 = .ok (.goto (-29), 3) := by decide +kernel
theorem dX3_friends_51 : decode cX3_friends 51 = .ok (.iinc 2 1, 3) := by decide +kernel
theorem dX3_friends_54 : decode cX3_friends 54 = .ok (.goto (-50), 3) := by decide +kernel
theorem dX3_friends_57 : decode cX3_friends 57 = .ok (.iload_n 1, 1) := by decide +kernel
theorem dX3_friends_58 : decode cX3_friends 58 = .ok (.ireturn, 1) := by decide +kernel
theorem dX3_deepestSealed_0 : decode cX3_deepestSealed 0 = .ok (.bipush (-9), 2) := by decide +kernel
theorem dX3_deepestSealed_2 : decode cX3_deepestSealed 2 = .ok (.istore_n 1, 1) := by decide +kernel
theorem dX3_deepestSealed_3 : decode cX3_deepestSealed 3 = .ok (.iconst 0, 1) := by decide +kernel
theorem dX3_deepestSealed_4 : decode cX3_deepestSealed 4 = .ok (.istore_n 2, 1) := by decide +kernel
theorem dX3_deepestSealed_5 : decode cX3_deepestSealed 5 = .ok (.iload_n 2, 1) := by decide +kernel
theorem dX3_deepestSealed_6 : decode cX3_deepestSealed 6 = .ok (.aload_n 0, 1) := by decide +kernel
theorem dX3_deepestSealed_7 : decode cX3_deepestSealed 7 = .ok (.getfield 15, 3) := by decide +kernel
theorem dX3_deepestSealed_10 : decode cX3_deepestSealed 10 = .ok (.invokevirtual 77, 3) := by decide +kernel
theorem dX3_deepestSealed_13 : decode cX3_deepestSealed 13 = .ok (.if_icmp .ge 57, 3) := by decide +kernel
theorem dX3_deepestSealed_16 : decode cX3_deepestSealed 16 = .ok (.iload_n 1, 1) := by decide +kernel
theorem dX3_deepestSealed_17 : decode cX3_deepestSealed 17 = .ok (.bipush (-9), 2) := by decide +kernel
theorem dX3_deepestSealed_19 : decode cX3_deepestSealed 19 = .ok (.if_icmp .eq 22, 3) := by decide +kernel
theorem dX3_deepestSealed_22 : decode cX3_deepestSealed 22 = .ok (.aload_n 0, 1) := by decide +kernel
theorem dX3_deepestSealed_23 : decode cX3_deepestSealed 23 = .ok (.getfield 15, 3) := by decide +kernel
theorem dX3_deepestSealed_26 : decode cX3_deepestSealed 26 = .ok (.iload_n 2, 1) := by decide +kernel
theorem dX3_deepestSealed_27 : decode cX3_deepestSealed 27 = .ok (.invokevirtual 80, 3) := by decide +kernel
theorem dX3_deepestSealed_30 : decode cX3_deepestSealed 30 = .ok (.aload_n 0, 1) := by decide +kernel
theorem dX3_deepestSealed_31 : decode cX3_deepestSealed 31 = .ok (.getfield 15, 3) := by decide +kernel
theorem dX3_deepestSealed_34 : decode cX3_deepestSealed 34 = .ok (.iload_n 1, 1) := by decide +kernel
theorem dX3_deepestSealed_35 : decode cX3_deepestSealed 35 = .ok (.invokevirtual 80, 3) := by decide +kernel
theorem dX3_deepestSealed_38 : decode cX3_deepestSealed 38 = .ok (.if_icmp .le 7, 3) := by decide +kernel
theorem dX3_deepestSealed_41 : decode cX3_deepestSealed 41 = .ok (.iconst 1, 1) := by decide +kernel
theorem dX3_deepestSealed_42 : decode cX3_deepestSealed 42 = .ok (.goto 4, 3) := by decide +kernel
theorem dX3_deepestSealed_45 : decode cX3_deepestSealed 45 = .ok (.iconst 0, 1) := by decide +kernel
theorem dX3_deepestSealed_46 : decode cX3_deepestSealed 46 = .ok (.istore_n 3, 1) := by decide +kernel
theorem dX3_deepestSealed_47 : decode cX3_deepestSealed 47 = .ok (.aload_n 0, 1) := by decide +kernel
theorem dX3_deepestSealed_48 : decode cX3_deepestSealed 48 = .ok (.getfield 15, 3) := by decide +kernel
theorem dX3_deepestSealed_51 : decode cX3_deepestSealed 51 = .ok (.iload_n 2, 1) := by decide +kernel
theorem dX3_deepestSealed_52 : decode cX3_deepestSealed 52 = .ok (.invokevirtual 83, 3) := by decide +kernel
theorem dX3_deepestSealed_55 : decode cX3_deepestSealed 55 = .ok (.ifCond .ne 9, 3) := by decide +kernel
theorem dX3_deepestSealed_58 : decode cX3_deepestSealed 58 = .ok (.iload_n 3, 1) := by decide +kernel
theorem dX3_deepestSealed_59 : decode cX3_deepestSealed 59 = .ok (.ifCond .eq 5, 3) := by decide +kernel
theorem dX3_deepestSealed_62 : decode cX3_deepestSealed 62 = .ok (.iload_n 2, 1) := by decide +kernel
theorem dX3_deepestSealed_63 : decode cX3_deepestSealed 63 = .ok (.istore_n 1, 1) := by decide +kernel
theorem dX3_deepestSealed_64 : decode cX3_deepestSealed 64 = .ok (.iinc 2 1, 3) := by decide +kernel
theorem dX3_deepestSealed_67 : decode cX3_deepestSealed 67 = .ok (.goto (-62), 3) := by decide +kernel
theorem dX3_deepestSealed_70 : decode cX3_deepestSealed 70 = .ok (.iload_n 1, 1) := by decide +kernel
theorem dX3_deepestSealed_71 : decode cX3_deepestSealed 71 = .ok (.ireturn, 1) := by decide +kernel
theorem dX3_leastHating_0 : decode cX3_leastHating 0 = .ok (.bipush (-9), 2) := by decide +kernel
theorem dX3_leastHating_2 : decode cX3_leastHating 2 = .ok (.istore_n 1, 1) := by decide +kernel
theorem dX3_leastHating_3 : decode cX3_leastHating 3 = .ok (.iconst 0, 1) := by decide +kernel
theorem dX3_leastHating_4 : decode cX3_leastHating 4 = .ok (.istore_n 2, 1) := by decide +kernel
theorem dX3_leastHating_5 : decode cX3_leastHating 5 = .ok (.iload_n 2, 1) := by decide +kernel
theorem dX3_leastHating_6 : decode cX3_leastHating 6 = .ok (.aload_n 0, 1) := by decide +kernel
theorem dX3_leastHating_7 : decode cX3_leastHating 7 = .ok (.getfield 15, 3) := by decide +kernel
theorem dX3_leastHating_10 : decode cX3_leastHating 10 = .ok (.invokevirtual 19, 3) := by decide +kernel
theorem dX3_leastHating_13 : decode cX3_leastHating 13 = .ok (.if_icmp .ge 30, 3) := by decide +kernel
theorem dX3_leastHating_16 : decode cX3_leastHating 16 = .ok (.iload_n 1, 1) := by decide +kernel
theorem dX3_leastHating_17 : decode cX3_leastHating 17 = .ok (.bipush (-9), 2) := by decide +kernel
theorem dX3_leastHating_19 : decode cX3_leastHating 19 = .ok (.if_icmp .eq 16, 3) := by decide +kernel
theorem dX3_leastHating_22 : decode cX3_leastHating 22 = .ok (.aload_n 0, 1) := by decide +kernel
theorem dX3_leastHating_23 : decode cX3_leastHating 23 = .ok (.iload_n 2, 1) := by decide +kernel
theorem dX3_leastHating_24 : decode cX3_leastHating 24 = .ok (.invokevirtual 87, 3) := by decide +kernel
theorem dX3_leastHating_27 : decode cX3_leastHating 27 = .ok (.aload_n 0, 1) := by decide +kernel
theorem dX3_leastHating_28 : decode cX3_leastHating 28 = .ok (.iload_n 1, 1) := by decide +kernel
theorem dX3_leastHating_29 : decode cX3_leastHating 29 = .ok (.invokevirtual 87, 3) := by decide +kernel
theorem dX3_leastHating_32 : decode cX3_leastHating 32 = .ok (.if_icmp .ge 5, 3) := by decide +kernel
theorem dX3_leastHating_35 : decode cX3_leastHating 35 = .ok (.iload_n 2, 1) := by decide +kernel
theorem dX3_leastHating_36 : decode cX3_leastHating 36 = .ok (.istore_n 1, 1) := by decide +kernel
theorem dX3_leastHating_37 : decode cX3_leastHating 37 = .ok (.iinc 2 1, 3) := by decide +kernel
theorem dX3_leastHating_40 : decode cX3_leastHating 40 = .ok (.goto (-35), 3) := by decide +kernel
theorem dX3_leastHating_43 : decode cX3_leastHating 43 = .ok (.iload_n 1, 1) := by decide +kernel
theorem dX3_leastHating_44 : decode cX3_leastHating 44 = .ok (.ireturn, 1) := by decide +kernel
theorem dX3_hatesTogether_0 : decode cX3_hatesTogether 0 = .ok (.iconst 0, 1) := by decide +kernel
theorem dX3_hatesTogether_1 : decode cX3_hatesTogether 1 = .ok (.istore_n 2, 1) := by decide +kernel
theorem dX3_hatesTogether_2 : decode cX3_hatesTogether 2 = .ok (.iconst 0, 1) := by decide +kernel
theorem dX3_hatesTogether_3 : decode cX3_hatesTogether 3 = .ok (.istore_n 3, 1) := by decide +kernel
theorem dX3_hatesTogether_4 : decode cX3_hatesTogether 4 = .ok (.iload_n 3, 1) := by decide +kernel
theorem dX3_hatesTogether_5 : decode cX3_hatesTogether 5 = .ok (.aload_n 0, 1) := by decide +kernel
theorem dX3_hatesTogether_6 : decode cX3_hatesTogether 6 = .ok (.getfield 15, 3) := by decide +kernel
theorem dX3_hatesTogether_9 : decode cX3_hatesTogether 9 = .ok (.invokevirtual 19, 3) := by decide +kernel
theorem dX3_hatesTogether_12 : decode cX3_hatesTogether 12 = .ok (.if_icmp .ge 18, 3) := by decide +kernel
theorem dX3_hatesTogether_15 : decode cX3_hatesTogether 15 = .ok (.iload_n 2, 1) := by decide +kernel
theorem dX3_hatesTogether_16 : decode cX3_hatesTogether 16 = .ok (.aload_n 0, 1) := by decide +kernel
theorem dX3_hatesTogether_17 : decode cX3_hatesTogether 17 = .ok (.iload_n 1, 1) := by decide +kernel
theorem dX3_hatesTogether_18 : decode cX3_hatesTogether 18 = .ok (.iload_n 3, 1) := by decide +kernel
theorem dX3_hatesTogether_19 : decode cX3_hatesTogether 19 = .ok (.invokevirtual 90, 3) := by decide +kernel
theorem dX3_hatesTogether_22 : decode cX3_hatesTogether 22 = .ok (.iadd, 1) := by decide +kernel
theorem dX3_hatesTogether_23 : decode cX3_hatesTogether 23 = .ok (.istore_n 2, 1) := by decide +kernel
theorem dX3_hatesTogether_24 : decode cX3_hatesTogether 24 = .ok (.iinc 3 1, 3) := by decide +kernel
theorem dX3_hatesTogether_27 : decode cX3_hatesTogether 27 = .ok (.goto (-23), 3) := by decide +kernel
theorem dX3_hatesTogether_30 : decode cX3_hatesTogether 30 = .ok (.iload_n 2, 1) := by decide +kernel
theorem dX3_hatesTogether_31 : decode cX3_hatesTogether 31 = .ok (.ireturn, 1) := by decide +kernel
theorem dX3_hateOrSelf_0 : decode cX3_hateOrSelf 0 = .ok (.iload_n 1, 1) := by decide +kernel
theorem dX3_hateOrSelf_1 : decode cX3_hateOrSelf 1 = .ok (.iload_n 2, 1) := by decide +kernel
theorem dX3_hateOrSelf_2 : decode cX3_hateOrSelf 2 = .ok (.if_icmp .ne 7, 3) := by decide +kernel
theorem dX3_hateOrSelf_5 : decode cX3_hateOrSelf 5 = .ok (.iconst 0, 1) := by decide +kernel
theorem dX3_hateOrSelf_6 : decode cX3_hateOrSelf 6 = .ok (.goto 12, 3) := by decide +kernel
theorem dX3_hateOrSelf_9 : decode cX3_hateOrSelf 9 = .ok (.aload_n 0, 1) := by decide +kernel
theorem dX3_hateOrSelf_10 : decode cX3_hateOrSelf 10 = .ok (.getfield 15, 3) := by decide +kernel
theorem dX3_hateOrSelf_13 : decode cX3_hateOrSelf 13 = .ok (.iload_n 1, 1) := by decide +kernel
theorem dX3_hateOrSelf_14 : decode cX3_hateOrSelf 14 = .ok (.iload_n 2, 1) := by decide +kernel
theorem dX3_hateOrSelf_15 : decode cX3_hateOrSelf 15 = .ok (.invokevirtual 51, 3) := by decide +kernel
theorem dX3_hateOrSelf_18 : decode cX3_hateOrSelf 18 = .ok (.ireturn, 1) := by decide +kernel
theorem dX3_mostHated_0 : decode cX3_mostHated 0 = .ok (.bipush (-9), 2) := by decide +kernel
theorem dX3_mostHated_2 : decode cX3_mostHated 2 = .ok (.istore_n 2, 1) := by decide +kernel
theorem dX3_mostHated_3 : decode cX3_mostHated 3 = .ok (.iconst 0, 1) := by decide +kernel
theorem dX3_mostHated_4 : decode cX3_mostHated 4 = .ok (.istore_n 3, 1) := by decide +kernel
theorem dX3_mostHated_5 : decode cX3_mostHated 5 = .ok (.iload_n 3, 1) := by decide +kernel
theorem dX3_mostHated_6 : decode cX3_mostHated 6 = .ok (.aload_n 0, 1) := by decide +kernel
theorem dX3_mostHated_7 : decode cX3_mostHated 7 = .ok (.getfield 15, 3) := by decide +kernel
theorem dX3_mostHated_10 : decode cX3_mostHated 10 = .ok (.invokevirtual 19, 3) := by decide +kernel
theorem dX3_mostHated_13 : decode cX3_mostHated 13 = .ok (.if_icmp .ge 55, 3) := by decide +kernel
theorem dX3_mostHated_16 : decode cX3_mostHated 16 = .ok (.iload_n 2, 1) := by decide +kernel
theorem dX3_mostHated_17 : decode cX3_mostHated 17 = .ok (.bipush (-9), 2) := by decide +kernel
theorem dX3_mostHated_19 : decode cX3_mostHated 19 = .ok (.if_icmp .eq 24, 3) := by decide +kernel
theorem dX3_mostHated_22 : decode cX3_mostHated 22 = .ok (.aload_n 0, 1) := by decide +kernel
theorem dX3_mostHated_23 : decode cX3_mostHated 23 = .ok (.getfield 15, 3) := by decide +kernel
theorem dX3_mostHated_26 : decode cX3_mostHated 26 = .ok (.iload_n 1, 1) := by decide +kernel
theorem dX3_mostHated_27 : decode cX3_mostHated 27 = .ok (.iload_n 3, 1) := by decide +kernel
theorem dX3_mostHated_28 : decode cX3_mostHated 28 = .ok (.invokevirtual 51, 3) := by decide +kernel
theorem dX3_mostHated_31 : decode cX3_mostHated 31 = .ok (.aload_n 0, 1) := by decide +kernel
theorem dX3_mostHated_32 : decode cX3_mostHated 32 = .ok (.getfield 15, 3) := by decide +kernel
theorem dX3_mostHated_35 : decode cX3_mostHated 35 = .ok (.iload_n 1, 1) := by decide +kernel
theorem dX3_mostHated_36 : decode cX3_mostHated 36 = .ok (.iload_n 2, 1) := by decide +kernel
theorem dX3_mostHated_37 : decode cX3_mostHated 37 = .ok (.invokevirtual 51, 3) := by decide +kernel
theorem dX3_mostHated_40 : decode cX3_mostHated 40 = .ok (.if_icmp .le 7, 3) := by decide +kernel
theorem dX3_mostHated_43 : decode cX3_mostHated 43 = .ok (.iconst 1, 1) := by decide +kernel
theorem dX3_mostHated_44 : decode cX3_mostHated 44 = .ok (.goto 4, 3) := by decide +kernel
theorem dX3_mostHated_47 : decode cX3_mostHated 47 = .ok (.iconst 0, 1) := by decide +kernel
theorem dX3_mostHated_48 : decode cX3_mostHated 48 = .ok (.istore 4, 2) := by decide +kernel
theorem dX3_mostHated_50 : decode cX3_mostHated 50 = .ok (.iload_n 3, 1) := by decide +kernel
theorem dX3_mostHated_51 : decode cX3_mostHated 51 = .ok (.iload_n 1, 1) := by decide +kernel
theorem dX3_mostHated_52 : decode cX3_mostHated 52 = .ok (.if_icmp .eq 10, 3) := by decide +kernel
theorem dX3_mostHated_55 : decode cX3_mostHated 55 = .ok (.iload 4, 2) := by decide +kernel
theorem dX3_mostHated_57 : decode cX3_mostHated 57 = .ok (.ifCond .eq 5, 3) := by decide +kernel
theorem dX3_mostHated_60 : decode cX3_mostHated 60 = .ok (.iload_n 3, 1) := by decide +kernel
theorem dX3_mostHated_61 : decode cX3_mostHated 61 = .ok (.istore_n 2, 1) := by decide +kernel
theorem dX3_mostHated_62 : decode cX3_mostHated 62 = .ok (.iinc 3 1, 3) := by decide +kernel
theorem dX3_mostHated_65 : decode cX3_mostHated 65 = .ok (.goto (-60), 3) := by decide +kernel
theorem dX3_mostHated_68 : decode cX3_mostHated 68 = .ok (.iload_n 2, 1) := by decide +kernel
theorem dX3_mostHated_69 : decode cX3_mostHated 69 = .ok (.ireturn, 1) := by decide +kernel
theorem dX3_bareTowns_0 : decode cX3_bareTowns 0 = .ok (.iconst 0, 1) := by decide +kernel
theorem dX3_bareTowns_1 : decode cX3_bareTowns 1 = .ok (.istore_n 1, 1) := by decide +kernel
theorem dX3_bareTowns_2 : decode cX3_bareTowns 2 = .ok (.iconst 0, 1) := by decide +kernel
theorem dX3_bareTowns_3 : decode cX3_bareTowns 3 = .ok (.istore_n 2, 1) := by decide +kernel
theorem dX3_bareTowns_4 : decode cX3_bareTowns 4 = .ok (.iload_n 2, 1) := by decide +kernel
theorem dX3_bareTowns_5 : decode cX3_bareTowns 5 = .ok (.aload_n 0, 1) := by decide +kernel
theorem dX3_bareTowns_6 : decode cX3_bareTowns 6 = .ok (.getfield 15, 3) := by decide +kernel
theorem dX3_bareTowns_9 : decode cX3_bareTowns 9 = .ok (.invokevirtual 77, 3) := by decide +kernel
theorem dX3_bareTowns_12 : decode cX3_bareTowns 12 = .ok (.if_icmp .ge 49, 3) := by decide +kernel
theorem dX3_bareTowns_15 : decode cX3_bareTowns 15 = .ok (.aload_n 0, 1) := by decide +kernel
theorem dX3_bareTowns_16 : decode cX3_bareTowns 16 = .ok (.getfield 15, 3) := by decide +kernel
theorem dX3_bareTowns_19 : decode cX3_bareTowns 19 = .ok (.iload_n 2, 1) := by decide +kernel
theorem dX3_bareTowns_20 : decode cX3_bareTowns 20 = .ok (.invokevirtual 83, 3) := by decide +kernel
theorem dX3_bareTowns_23 : decode cX3_bareTowns 23 = .ok (.ifCond .ne 32, 3) := by decide +kernel
theorem dX3_bareTowns_26 : decode cX3_bareTowns 26 = .ok (.aload_n 0, 1) := by decide +kernel
theorem dX3_bareTowns_27 : decode cX3_bareTowns 27 = .ok (.aload_n 0, 1) := by decide +kernel
theorem dX3_bareTowns_28 : decode cX3_bareTowns 28 = .ok (.getfield 15, 3) := by decide +kernel
theorem dX3_bareTowns_31 : decode cX3_bareTowns 31 = .ok (.iload_n 2, 1) := by decide +kernel
theorem dX3_bareTowns_32 : decode cX3_bareTowns 32 = .ok (.invokevirtual 93, 3) := by decide +kernel
theorem dX3_bareTowns_35 : decode cX3_bareTowns 35 = .ok (.invokevirtual 44, 3) := by decide +kernel
theorem dX3_bareTowns_38 : decode cX3_bareTowns 38 = .ok (.iconst 2, 1) := by decide +kernel
theorem dX3_bareTowns_39 : decode cX3_bareTowns 39 = .ok (.if_icmp .ge 16, 3) := by decide +kernel
theorem dX3_bareTowns_42 : decode cX3_bareTowns 42 = .ok (.iload_n 1, 1) := by decide +kernel
theorem dX3_bareTowns_43 : decode cX3_bareTowns 43 = .ok (.iconst 1, 1) := by decide +kernel
theorem dX3_bareTowns_44 : decode cX3_bareTowns 44 = .ok (.aload_n 0, 1) := by decide +kernel
theorem dX3_bareTowns_45 : decode cX3_bareTowns 45 = .ok (.getfield 15, 3) := by decide +kernel
theorem dX3_bareTowns_48 : decode cX3_bareTowns 48 = .ok (.iload_n 2, 1) := by decide +kernel
theorem dX3_bareTowns_49 : decode cX3_bareTowns 49 = .ok (.invokevirtual 93, 3) := by decide +kernel
theorem dX3_bareTowns_52 : decode cX3_bareTowns 52 = .ok (.ishl, 1) := by decide +kernel
theorem dX3_bareTowns_53 : decode cX3_bareTowns 53 = .ok (.ior, 1) := by decide +kernel
theorem dX3_bareTowns_54 : decode cX3_bareTowns 54 = .ok (.istore_n 1, 1) := by decide +kernel
theorem dX3_bareTowns_55 : decode cX3_bareTowns 55 = .ok (.iinc 2 1, 3) := by decide +kernel
theorem dX3_bareTowns_58 : decode cX3_bareTowns 58 = .ok (.goto (-54), 3) := by decide +kernel
theorem dX3_bareTowns_61 : decode cX3_bareTowns 61 = .ok (.iload_n 1, 1) := by decide +kernel
theorem dX3_bareTowns_62 : decode cX3_bareTowns 62 = .ok (.ireturn, 1) := by decide +kernel
theorem dX3_firstMisjudged_0 : decode cX3_firstMisjudged 0 = .ok (.aload_n 2, 1) := by decide +kernel
theorem dX3_firstMisjudged_1 : decode cX3_firstMisjudged 1 = .ok (.ifnonnull 6, 3) := by decide +kernel
theorem dX3_firstMisjudged_4 : decode cX3_firstMisjudged 4 = .ok (.bipush (-9), 2) := by decide +kernel
theorem dX3_firstMisjudged_6 : decode cX3_firstMisjudged 6 = .ok (.ireturn, 1) := by decide +kernel
theorem dX3_firstMisjudged_7 : decode cX3_firstMisjudged 7 = .ok (.iconst 0, 1) := by decide +kernel
theorem dX3_firstMisjudged_8 : decode cX3_firstMisjudged 8 = .ok (.istore_n 3, 1) := by decide +kernel
theorem dX3_firstMisjudged_9 : decode cX3_firstMisjudged 9 = .ok (.iload_n 3, 1) := by decide +kernel
theorem dX3_firstMisjudged_10 : decode cX3_firstMisjudged 10 = .ok (.aload_n 2, 1) := by decide +kernel
theorem dX3_firstMisjudged_11 : decode cX3_firstMisjudged 11 = .ok (.invokevirtual 96, 3) := by decide +kernel
theorem dX3_firstMisjudged_14 : decode cX3_firstMisjudged 14 = .ok (.if_icmp .ge 36, 3) := by decide +kernel
theorem dX3_firstMisjudged_17 : decode cX3_firstMisjudged 17 = .ok (.aload_n 0, 1) := by decide +kernel
theorem dX3_firstMisjudged_18 : decode cX3_firstMisjudged 18 = .ok (.getfield 15, 3) := by decide +kernel
theorem dX3_firstMisjudged_21 : decode cX3_firstMisjudged 21 = .ok (.iload_n 3, 1) := by decide +kernel
theorem dX3_firstMisjudged_22 : decode cX3_firstMisjudged 22 = .ok (.invokevirtual 101, 3) := by decide +kernel
theorem dX3_firstMisjudged_25 : decode cX3_firstMisjudged 25 = .ok (.ifCond .eq 17, 3) := by decide +kernel
theorem dX3_firstMisjudged_28 : decode cX3_firstMisjudged 28 = .ok (.aload_n 2, 1) := by decide +kernel
theorem dX3_firstMisjudged_29 : decode cX3_firstMisjudged 29 = .ok (.iload_n 3, 1) := by decide +kernel
theorem dX3_firstMisjudged_30 : decode cX3_firstMisjudged 30 = .ok (.invokevirtual 104, 3) := by decide +kernel
theorem dX3_firstMisjudged_33 : decode cX3_firstMisjudged 33 = .ok (.aload_n 0, 1) := by decide +kernel
theorem dX3_firstMisjudged_34 : decode cX3_firstMisjudged 34 = .ok (.iload_n 1, 1) := by decide +kernel
theorem dX3_firstMisjudged_35 : decode cX3_firstMisjudged 35 = .ok (.iload_n 3, 1) := by decide +kernel
theorem dX3_firstMisjudged_36 : decode cX3_firstMisjudged 36 = .ok (.invokevirtual 90, 3) := by decide +kernel
theorem dX3_firstMisjudged_39 : decode cX3_firstMisjudged 39 = .ok (.if_icmp .eq 5, 3) := by decide +kernel
theorem dX3_firstMisjudged_42 : decode cX3_firstMisjudged 42 = .ok (.iload_n 3, 1) := by decide +kernel
theorem dX3_firstMisjudged_43 : decode cX3_firstMisjudged 43 = .ok (.ireturn, 1) := by decide +kernel
theorem dX3_firstMisjudged_44 : decode cX3_firstMisjudged 44 = .ok (.iinc 3 1, 3) := by decide +kernel
theorem dX3_firstMisjudged_47 : decode cX3_firstMisjudged 47 = .ok (.goto (-38), 3) := by decide +kernel
theorem dX3_firstMisjudged_50 : decode cX3_firstMisjudged 50 = .ok (.bipush (-9), 2) := by decide +kernel
theorem dX3_firstMisjudged_52 : decode cX3_firstMisjudged 52 = .ok (.ireturn, 1) := by decide +kernel
theorem dX4_init_0 : decode cX4_init 0 = .ok (.aload_n 0, 1) := by decide +kernel
theorem dX4_init_1 : decode cX4_init 1 = .ok (.invokespecial 3, 3) := by decide +kernel
theorem dX4_init_4 : decode cX4_init 4 = .ok (.aload_n 0, 1) := by decide +kernel
theorem dX4_init_5 : decode cX4_init 5 = .ok (.new 9, 3) := by decide +kernel
theorem dX4_init_8 : decode cX4_init 8 = .ok (.dup, 1) := by decide +kernel
theorem dX4_init_9 : decode cX4_init 9 = .ok (.invokespecial 11, 3) := by decide +kernel
theorem dX4_init_12 : decode cX4_init 12 = .ok (.putfield 12, 3) := by decide +kernel
theorem dX4_init_15 : decode cX4_init 15 = .ok (.aload_n 0, 1) := by decide +kernel
theorem dX4_init_16 : decode cX4_init 16 = .ok (.aload_n 1, 1) := by decide +kernel
theorem dX4_init_17 : decode cX4_init 17 = .ok (.putfield 18, 3) := by decide +kernel
theorem dX4_init_20 : decode cX4_init 20 = .ok (.return_, 1) := by decide +kernel
theorem dX4_hateAfter_0 : decode cX4_hateAfter 0 = .ok (.aload_n 0, 1) := by decide +kernel
theorem dX4_hateAfter_1 : decode cX4_hateAfter 1 = .ok (.getfield 12, 3) := by decide +kernel
theorem dX4_hateAfter_4 : decode cX4_hateAfter 4 = .ok (.aload_n 0, 1) := by decide +kernel
theorem dX4_hateAfter_5 : decode cX4_hateAfter 5 = .ok (.getfield 18, 3) := by decide +kernel
theorem dX4_hateAfter_8 : decode cX4_hateAfter 8 = .ok (.invokevirtual 21, 3) := by decide +kernel
theorem dX4_hateAfter_11 : decode cX4_hateAfter 11 = .ok (.aload_n 0, 1) := by decide +kernel
theorem dX4_hateAfter_12 : decode cX4_hateAfter 12 = .ok (.getfield 12, 3) := by decide +kernel
theorem dX4_hateAfter_15 : decode cX4_hateAfter 15 = .ok (.iload_n 3, 1) := by decide +kernel
theorem dX4_hateAfter_16 : decode cX4_hateAfter 16 = .ok (.invokevirtual 25, 3) := by decide +kernel
theorem dX4_hateAfter_19 : decode cX4_hateAfter 19 = .ok (.pop, 1) := by decide +kernel
theorem dX4_hateAfter_20 : decode cX4_hateAfter 20 = .ok (.aload_n 0, 1) := by decide +kernel
theorem dX4_hateAfter_21 : decode cX4_hateAfter 21 = .ok (.getfield 12, 3) := by decide +kernel
theorem dX4_hateAfter_24 : decode cX4_hateAfter 24 = .ok (.iload_n 1, 1) := by decide +kernel
theorem dX4_hateAfter_25 : decode cX4_hateAfter 25 = .ok (.iload_n 2, 1) := by decide +kernel
theorem dX4_hateAfter_26 : decode cX4_hateAfter 26 = .ok (.invokevirtual 29, 3) := by decide +kernel
theorem dX4_hateAfter_29 : decode cX4_hateAfter 29 = .ok (.ireturn, 1) := by decide +kernel
theorem dX4_openBitsAfter_0 : decode cX4_openBitsAfter 0 = .ok (.aload_n 0, 1) := by decide +kernel
theorem dX4_openBitsAfter_1 : decode cX4_openBitsAfter 1 = .ok (.getfield 12, 3) := by decide +kernel
theorem dX4_openBitsAfter_4 : decode cX4_openBitsAfter 4 = .ok (.aload_n 0, 1) := by decide +kernel
theorem dX4_openBitsAfter_5 : decode cX4_openBitsAfter 5 = .ok (.getfield 18, 3) := by decide +kernel
theorem dX4_openBitsAfter_8 : decode cX4_openBitsAfter 8 = .ok (.invokevirtual 21, 3) := by decide +kernel
theorem dX4_openBitsAfter_11 : decode cX4_openBitsAfter 11 = .ok (.aload_n 0, 1) := by decide +kernel
theorem dX4_openBitsAfter_12 : decode cX4_openBitsAfter 12 = .ok (.getfield 12, 3) := by decide +kernel
theorem dX4_openBitsAfter_15 : decode cX4_openBitsAfter 15 = .ok (.iload_n 1, 1) := by decide +kernel
theorem dX4_openBitsAfter_16 : decode cX4_openBitsAfter 16 = .ok (.invokevirtual 25, 3) := by decide +kernel
theorem dX4_openBitsAfter_19 : decode cX4_openBitsAfter 19 = .ok (.pop, 1) := by decide +kernel
theorem dX4_openBitsAfter_20 : decode cX4_openBitsAfter 20 = .ok (.aload_n 0, 1) := by decide +kernel
theorem dX4_openBitsAfter_21 : decode cX4_openBitsAfter 21 = .ok (.getfield 12, 3) := by decide +kernel
theorem dX4_openBitsAfter_24 : decode cX4_openBitsAfter 24 = .ok (.invokevirtual 33, 3) := by decide +kernel
theorem dX4_openBitsAfter_27 : decode cX4_openBitsAfter 27 = .ok (.ireturn, 1) := by decide +kernel
theorem dX4_allHateAfter_0 : decode cX4_allHateAfter 0 = .ok (.aload_n 0, 1) := by decide +kernel
theorem dX4_allHateAfter_1 : decode cX4_allHateAfter 1 = .ok (.getfield 12, 3) := by decide +kernel
theorem dX4_allHateAfter_4 : decode cX4_allHateAfter 4 = .ok (.aload_n 0, 1) := by decide +kernel
theorem dX4_allHateAfter_5 : decode cX4_allHateAfter 5 = .ok (.getfield 18, 3) := by decide +kernel
theorem dX4_allHateAfter_8 : decode cX4_allHateAfter 8 = .ok (.invokevirtual 21, 3) := by decide +kernel
theorem dX4_allHateAfter_11 : decode cX4_allHateAfter 11 = .ok (.aload_n 0, 1) := by decide +kernel
theorem dX4_allHateAfter_12 : decode cX4_allHateAfter 12 = .ok (.getfield 12, 3) := by decide +kernel
theorem dX4_allHateAfter_15 : decode cX4_allHateAfter 15 = .ok (.iload_n 1, 1) := by decide +kernel
theorem dX4_allHateAfter_16 : decode cX4_allHateAfter 16 = .ok (.invokevirtual 25, 3) := by decide +kernel
theorem dX4_allHateAfter_19 : decode cX4_allHateAfter 19 = .ok (.pop, 1) := by decide +kernel
theorem dX4_allHateAfter_20 : decode cX4_allHateAfter 20 = .ok (.aload_n 0, 1) := by decide +kernel
theorem dX4_allHateAfter_21 : decode cX4_allHateAfter 21 = .ok (.getfield 12, 3) := by decide +kernel
theorem dX4_allHateAfter_24 : decode cX4_allHateAfter 24 = .ok (.invokevirtual 37, 3) := by decide +kernel
theorem dX4_allHateAfter_27 : decode cX4_allHateAfter 27 = .ok (.ireturn, 1) := by decide +kernel
theorem dX4_weekOpened_0 : decode cX4_weekOpened 0 = .ok (.aload_n 0, 1) := by decide +kernel
theorem dX4_weekOpened_1 : decode cX4_weekOpened 1 = .ok (.getfield 12, 3) := by decide +kernel
theorem dX4_weekOpened_4 : decode cX4_weekOpened 4 = .ok (.aload_n 0, 1) := by decide +kernel
theorem dX4_weekOpened_5 : decode cX4_weekOpened 5 = .ok (.getfield 18, 3) := by decide +kernel
theorem dX4_weekOpened_8 : decode cX4_weekOpened 8 = .ok (.invokevirtual 21, 3) := by decide +kernel
theorem dX4_weekOpened_11 : decode cX4_weekOpened 11 = .ok (.iconst 0, 1) := by decide +kernel
theorem dX4_weekOpened_12 : decode cX4_weekOpened 12 = .ok (.istore_n 2, 1) := by decide +kernel
theorem dX4_weekOpened_13 : decode cX4_weekOpened 13 = .ok (.iload_n 2, 1) := by decide +kernel
theorem dX4_weekOpened_14 : decode cX4_weekOpened 14 = .ok (.bipush 60, 2) := by decide +kernel
theorem dX4_weekOpened_16 : decode cX4_weekOpened 16 = .ok (.if_icmp .gt 30, 3) := by decide +kernel
theorem dX4_weekOpened_19 : decode cX4_weekOpened 19 = .ok (.aload_n 0, 1) := by decide +kernel
theorem dX4_weekOpened_20 : decode cX4_weekOpened 20 = .ok (.getfield 12, 3) := by decide +kernel
theorem dX4_weekOpened_23 : decode cX4_weekOpened 23 = .ok (.iload_n 1, 1) := by decide +kernel
theorem dX4_weekOpened_24 : decode cX4_weekOpened 24 = .ok (.invokevirtual 40, 3) := by decide +kernel
theorem dX4_weekOpened_27 : decode cX4_weekOpened 27 = .ok (.ifCond .eq 5, 3) := by decide +kernel
theorem dX4_weekOpened_30 : decode cX4_weekOpened 30 = .ok (.iload_n 2, 1) := by decide +kernel
theorem dX4_weekOpened_31 : decode cX4_weekOpened 31 = .ok (.ireturn, 1) := by decide +kernel
theorem dX4_weekOpened_32 : decode cX4_weekOpened 32 = .ok (.aload_n 0, 1) := by decide +kernel
theorem dX4_weekOpened_33 : decode cX4_weekOpened 33 = .ok (.getfield 12, 3) := by decide +kernel
theorem dX4_weekOpened_36 : decode cX4_weekOpened 36 = .ok (.invokevirtual 44, 3) := by decide +kernel
theorem dX4_weekOpened_39 : decode cX4_weekOpened 39 = .ok (.pop, 1) := by decide +kernel
theorem dX4_weekOpened_40 : decode cX4_weekOpened 40 = .ok (.iinc 2 1, 3) := by decide +kernel
theorem dX4_weekOpened_43 : decode cX4_weekOpened 43 = .ok (.goto (-30), 3) := by decide +kernel
theorem dX4_weekOpened_46 : decode cX4_weekOpened 46 = .ok (.bipush (-9), 2) := by decide +kernel
theorem dX4_weekOpened_48 : decode cX4_weekOpened 48 = .ok (.ireturn, 1) := by decide +kernel
theorem dX4_openedBy_0 : decode cX4_openedBy 0 = .ok (.aload_n 0, 1) := by decide +kernel
theorem dX4_openedBy_1 : decode cX4_openedBy 1 = .ok (.getfield 12, 3) := by decide +kernel
theorem dX4_openedBy_4 : decode cX4_openedBy 4 = .ok (.aload_n 0, 1) := by decide +kernel
theorem dX4_openedBy_5 : decode cX4_openedBy 5 = .ok (.getfield 18, 3) := by decide +kernel
theorem dX4_openedBy_8 : decode cX4_openedBy 8 = .ok (.invokevirtual 21, 3) := by decide +kernel
theorem dX4_openedBy_11 : decode cX4_openedBy 11 = .ok (.aload_n 0, 1) := by decide +kernel
theorem dX4_openedBy_12 : decode cX4_openedBy 12 = .ok (.getfield 12, 3) := by decide +kernel
theorem dX4_openedBy_15 : decode cX4_openedBy 15 = .ok (.bipush 60, 2) := by decide +kernel
theorem dX4_openedBy_17 : decode cX4_openedBy 17 = .ok (.invokevirtual 25, 3) := by decide +kernel
theorem dX4_openedBy_20 : decode cX4_openedBy 20 = .ok (.pop, 1) := by decide +kernel
theorem dX4_openedBy_21 : decode cX4_openedBy 21 = .ok (.aload_n 0, 1) := by decide +kernel
theorem dX4_openedBy_22 : decode cX4_openedBy 22 = .ok (.getfield 12, 3) := by decide +kernel
theorem dX4_openedBy_25 : decode cX4_openedBy 25 = .ok (.iload_n 1, 1) := by decide +kernel
theorem dX4_openedBy_26 : decode cX4_openedBy 26 = .ok (.invokevirtual 47, 3) := by decide +kernel
theorem dX4_openedBy_29 : decode cX4_openedBy 29 = .ok (.ireturn, 1) := by decide +kernel
theorem dX4_weekBelow_0 : decode cX4_weekBelow 0 = .ok (.aload_n 0, 1) := by decide +kernel
theorem dX4_weekBelow_1 : decode cX4_weekBelow 1 = .ok (.getfield 12, 3) := by decide +kernel
theorem dX4_weekBelow_4 : decode cX4_weekBelow 4 = .ok (.aload_n 0, 1) := by decide +kernel
theorem dX4_weekBelow_5 : decode cX4_weekBelow 5 = .ok (.getfield 18, 3) := by decide +kernel
theorem dX4_weekBelow_8 : decode cX4_weekBelow 8 = .ok (.invokevirtual 21, 3) := by decide +kernel
theorem dX4_weekBelow_11 : decode cX4_weekBelow 11 = .ok (.iconst 0, 1) := by decide +kernel
theorem dX4_weekBelow_12 : decode cX4_weekBelow 12 = .ok (.istore 4, 2) := by decide +kernel
theorem dX4_weekBelow_14 : decode cX4_weekBelow 14 = .ok (.iload 4, 2) := by decide +kernel
theorem dX4_weekBelow_16 : decode cX4_weekBelow 16 = .ok (.bipush 60, 2) := by decide +kernel
theorem dX4_weekBelow_18 : decode cX4_weekBelow 18 = .ok (.if_icmp .gt 33, 3) := by decide +kernel
theorem dX4_weekBelow_21 : decode cX4_weekBelow 21 = .ok (.aload_n 0, 1) := by decide +kernel
theorem dX4_weekBelow_22 : decode cX4_weekBelow 22 = .ok (.getfield 12, 3) := by decide +kernel
theorem dX4_weekBelow_25 : decode cX4_weekBelow 25 = .ok (.iload_n 1, 1) := by decide +kernel
theorem dX4_weekBelow_26 : decode cX4_weekBelow 26 = .ok (.iload_n 2, 1) := by decide +kernel
theorem dX4_weekBelow_27 : decode cX4_weekBelow 27 = .ok (.invokevirtual 29, 3) := by decide +kernel
theorem dX4_weekBelow_30 : decode cX4_weekBelow 30 = .ok (.iload_n 3, 1) := by decide +kernel
theorem dX4_weekBelow_31 : decode cX4_weekBelow 31 = .ok (.if_icmp .ge 6, 3) := by decide +kernel
theorem dX4_weekBelow_34 : decode cX4_weekBelow 34 = .ok (.iload 4, 2) := by decide +kernel
theorem dX4_weekBelow_36 : decode cX4_weekBelow 36 = .ok (.ireturn, 1) := by decide +kernel
theorem dX4_weekBelow_37 : decode cX4_weekBelow 37 = .ok (.aload_n 0, 1) := by decide +kernel
theorem dX4_weekBelow_38 : decode cX4_weekBelow 38 = .ok (.getfield 12, 3) := by decide +kernel
theorem dX4_weekBelow_41 : decode cX4_weekBelow 41 = .ok (.invokevirtual 44, 3) := by decide +kernel
theorem dX4_weekBelow_44 : decode cX4_weekBelow 44 = .ok (.pop, 1) := by decide +kernel
theorem dX4_weekBelow_45 : decode cX4_weekBelow 45 = .ok (.iinc 4 1, 3) := by decide +kernel
theorem dX4_weekBelow_48 : decode cX4_weekBelow 48 = .ok (.goto (-34), 3) := by decide +kernel
theorem dX4_weekBelow_51 : decode cX4_weekBelow 51 = .ok (.bipush (-9), 2) := by decide +kernel
theorem dX4_weekBelow_53 : decode cX4_weekBelow 53 = .ok (.ireturn, 1) := by decide +kernel
theorem dX4_sealedFar_0 : decode cX4_sealedFar 0 = .ok (.iconst 1, 1) := by decide +kernel
theorem dX4_sealedFar_1 : decode cX4_sealedFar 1 = .ok (.aload_n 0, 1) := by decide +kernel
theorem dX4_sealedFar_2 : decode cX4_sealedFar 2 = .ok (.getfield 18, 3) := by decide +kernel
theorem dX4_sealedFar_5 : decode cX4_sealedFar 5 = .ok (.invokevirtual 50, 3) := by decide +kernel
theorem dX4_sealedFar_8 : decode cX4_sealedFar 8 = .ok (.ishl, 1) := by decide +kernel
theorem dX4_sealedFar_9 : decode cX4_sealedFar 9 = .ok (.iconst 1, 1) := by decide +kernel
theorem dX4_sealedFar_10 : decode cX4_sealedFar 10 = .ok (.isub, 1) := by decide +kernel
theorem dX4_sealedFar_11 : decode cX4_sealedFar 11 = .ok (.aload_n 0, 1) := by decide +kernel
theorem dX4_sealedFar_12 : decode cX4_sealedFar 12 = .ok (.bipush 60, 2) := by decide +kernel
theorem dX4_sealedFar_14 : decode cX4_sealedFar 14 = .ok (.invokevirtual 53, 3) := by decide +kernel
theorem dX4_sealedFar_17 : decode cX4_sealedFar 17 = .ok (.iconst (-1), 1) := by decide +kernel
theorem dX4_sealedFar_18 : decode cX4_sealedFar 18 = .ok (.ixor, 1) := by decide +kernel
theorem dX4_sealedFar_19 : decode cX4_sealedFar 19 = .ok (.iand, 1) := by decide +kernel
theorem dX4_sealedFar_20 : decode cX4_sealedFar 20 = .ok (.ireturn, 1) := by decide +kernel
theorem dX4_firstOpened_0 : decode cX4_firstOpened 0 = .ok (.aload_n 0, 1) := by decide +kernel
theorem dX4_firstOpened_1 : decode cX4_firstOpened 1 = .ok (.getfield 12, 3) := by decide +kernel
theorem dX4_firstOpened_4 : decode cX4_firstOpened 4 = .ok (.aload_n 0, 1) := by decide +kernel
theorem dX4_firstOpened_5 : decode cX4_firstOpened 5 = .ok (.getfield 18, 3) := by decide +kernel
theorem dX4_firstOpened_8 : decode cX4_firstOpened 8 = .ok (.invokevirtual 21, 3) := by decide +kernel
theorem dX4_firstOpened_11 : decode cX4_firstOpened 11 = .ok (.iconst 1, 1) := by decide +kernel
theorem dX4_firstOpened_12 : decode cX4_firstOpened 12 = .ok (.istore_n 1, 1) := by decide +kernel
theorem dX4_firstOpened_13 : decode cX4_firstOpened 13 = .ok (.iload_n 1, 1) := by decide +kernel
theorem dX4_firstOpened_14 : decode cX4_firstOpened 14 = .ok (.bipush 60, 2) := by decide +kernel
theorem dX4_firstOpened_16 : decode cX4_firstOpened 16 = .ok (.if_icmp .gt 42, 3) := by decide +kernel
theorem dX4_firstOpened_19 : decode cX4_firstOpened 19 = .ok (.aload_n 0, 1) := by decide +kernel
theorem dX4_firstOpened_20 : decode cX4_firstOpened 20 = .ok (.getfield 12, 3) := by decide +kernel
theorem dX4_firstOpened_23 : decode cX4_firstOpened 23 = .ok (.invokevirtual 44, 3) := by decide +kernel
theorem dX4_firstOpened_26 : decode cX4_firstOpened 26 = .ok (.istore_n 2, 1) := by decide +kernel
theorem dX4_firstOpened_27 : decode cX4_firstOpened 27 = .ok (.iconst 0, 1) := by decide +kernel
theorem dX4_firstOpened_28 : decode cX4_firstOpened 28 = .ok (.istore_n 3, 1) := by decide +kernel
theorem dX4_firstOpened_29 : decode cX4_firstOpened 29 = .ok (.iload_n 3, 1) := by decide +kernel
theorem dX4_firstOpened_30 : decode cX4_firstOpened 30 = .ok (.bipush 6, 2) := by decide +kernel
theorem dX4_firstOpened_32 : decode cX4_firstOpened 32 = .ok (.if_icmp .ge 20, 3) := by decide +kernel
theorem dX4_firstOpened_35 : decode cX4_firstOpened 35 = .ok (.iload_n 2, 1) := by decide +kernel
theorem dX4_firstOpened_36 : decode cX4_firstOpened 36 = .ok (.iload_n 3, 1) := by decide +kernel
theorem dX4_firstOpened_37 : decode cX4_firstOpened 37 = .ok (.invokestatic 56, 3) := by decide +kernel
theorem dX4_firstOpened_40 : decode cX4_firstOpened 40 = .ok (.iconst 1, 1) := by decide +kernel
theorem dX4_firstOpened_41 : decode cX4_firstOpened 41 = .ok (.if_icmp .ne 5, 3) := by decide +kernel
theorem dX4_firstOpened_44 : decode cX4_firstOpened 44 = .ok (.iload_n 3, 1) := by decide +kernel
theorem dX4_firstOpened_45 : decode cX4_firstOpened 45 = .ok (.ireturn, 1) := by decide +kernel
theorem dX4_firstOpened_46 : decode cX4_firstOpened 46 = .ok (.iinc 3 1, 3) := by decide +kernel
theorem dX4_firstOpened_49 : decode cX4_firstOpened 49 = .ok (.goto (-20), 3) := by decide +kernel
theorem dX4_firstOpened_52 : decode cX4_firstOpened 52 = .ok (.iinc 1 1, 3) := by decide +kernel
theorem dX4_firstOpened_55 : decode cX4_firstOpened 55 = .ok (.goto (-42), 3) := by decide +kernel
theorem dX4_firstOpened_58 : decode cX4_firstOpened 58 = .ok (.bipush (-9), 2) := by decide +kernel
theorem dX4_firstOpened_60 : decode cX4_firstOpened 60 = .ok (.ireturn, 1) := by decide +kernel
theorem dX4_leastInsult_0 : decode cX4_leastInsult 0 = .ok (.iconst 0, 1) := by decide +kernel
theorem dX4_leastInsult_1 : decode cX4_leastInsult 1 = .ok (.istore 4, 2) := by decide +kernel
theorem dX4_leastInsult_3 : decode cX4_leastInsult 3 = .ok (.iload 4, 2) := by decide +kernel
theorem dX4_leastInsult_5 : decode cX4_leastInsult 5 = .ok (.bipush 99, 2) := by decide +kernel
theorem dX4_leastInsult_7 : decode cX4_leastInsult 7 = .ok (.if_icmp .gt 68, 3) := by decide +kernel
theorem dX4_leastInsult_10 : decode cX4_leastInsult 10 = .ok (.aload_n 0, 1) := by decide +kernel
theorem dX4_leastInsult_11 : decode cX4_leastInsult 11 = .ok (.getfield 12, 3) := by decide +kernel
theorem dX4_leastInsult_14 : decode cX4_leastInsult 14 = .ok (.aload_n 0, 1) := by decide +kernel
theorem dX4_leastInsult_15 : decode cX4_leastInsult 15 = .ok (.getfield 18, 3) := by decide +kernel
theorem dX4_leastInsult_18 : decode cX4_leastInsult 18 = .ok (.invokevirtual 21, 3) := by decide +kernel
theorem dX4_leastInsult_21 : decode cX4_leastInsult 21 = .ok (.aload_n 0, 1) := by decide +kernel
theorem dX4_leastInsult_22 : decode cX4_leastInsult 22 = .ok (.getfield 12, 3) := by decide +kernel
theorem dX4_leastInsult_25 : decode cX4_leastInsult 25 = .ok (.iload_n 1, 1) := by decide +kernel
theorem dX4_leastInsult_26 : decode cX4_leastInsult 26 = .ok (.iload_n 2, 1) := by decide +kernel
theorem dX4_leastInsult_27 : decode cX4_leastInsult 27 = .ok (.aload_n 0, 1) := by decide +kernel
theorem dX4_leastInsult_28 : decode cX4_leastInsult 28 = .ok (.getfield 18, 3) := by decide +kernel
theorem dX4_leastInsult_31 : decode cX4_leastInsult 31 = .ok (.iload_n 1, 1) := by decide +kernel
theorem dX4_leastInsult_32 : decode cX4_leastInsult 32 = .ok (.iload_n 2, 1) := by decide +kernel
theorem dX4_leastInsult_33 : decode cX4_leastInsult 33 = .ok (.invokevirtual 29, 3) := by decide +kernel
theorem dX4_leastInsult_36 : decode cX4_leastInsult 36 = .ok (.iload 4, 2) := by decide +kernel
theorem dX4_leastInsult_38 : decode cX4_leastInsult 38 = .ok (.iadd, 1) := by decide +kernel
theorem dX4_leastInsult_39 : decode cX4_leastInsult 39 = .ok (.invokevirtual 59, 3) := by decide +kernel
theorem dX4_leastInsult_42 : decode cX4_leastInsult 42 = .ok (.aload_n 0, 1) := by decide +kernel
theorem dX4_leastInsult_43 : decode cX4_leastInsult 43 = .ok (.getfield 12, 3) := by decide +kernel
theorem dX4_leastInsult_46 : decode cX4_leastInsult 46 = .ok (.invokevirtual 44, 3) := by decide +kernel
theorem dX4_leastInsult_49 : decode cX4_leastInsult 49 = .ok (.pop, 1) := by decide +kernel
theorem dX4_leastInsult_50 : decode cX4_leastInsult 50 = .ok (.aload_n 0, 1) := by decide +kernel
theorem dX4_leastInsult_51 : decode cX4_leastInsult 51 = .ok (.getfield 12, 3) := by decide +kernel
theorem dX4_leastInsult_54 : decode cX4_leastInsult 54 = .ok (.iload_n 3, 1) := by decide +kernel
theorem dX4_leastInsult_55 : decode cX4_leastInsult 55 = .ok (.invokevirtual 47, 3) := by decide +kernel
theorem dX4_leastInsult_58 : decode cX4_leastInsult 58 = .ok (.iload_n 1, 1) := by decide +kernel
theorem dX4_leastInsult_59 : decode cX4_leastInsult 59 = .ok (.iload_n 2, 1) := by decide +kernel
theorem dX4_leastInsult_60 : decode cX4_leastInsult 60 = .ok (.invokestatic 63, 3) := by decide +kernel
theorem dX4_leastInsult_63 : decode cX4_leastInsult 63 = .ok (.if_icmp .ne 6, 3) := by decide +kernel
theorem dX4_leastInsult_66 : decode cX4_leastInsult 66 = .ok (.iload 4, 2) := by decide +kernel
theorem dX4_leastInsult_68 : decode cX4_leastInsult 68 = .ok (.ireturn, 1) := by decide +kernel
theorem dX4_leastInsult_69 : decode cX4_leastInsult 69 = .ok (.iinc 4 1, 3) := by decide +kernel
theorem dX4_leastInsult_72 : decode cX4_leastInsult 72 = .ok (.goto (-69), 3) := by decide +kernel
theorem dX4_leastInsult_75 : decode cX4_leastInsult 75 = .ok (.bipush (-9), 2) := by decide +kernel
theorem dX4_leastInsult_77 : decode cX4_leastInsult 77 = .ok (.ireturn, 1) := by decide +kernel
theorem dX4_idleWeeks_0 : decode cX4_idleWeeks 0 = .ok (.aload_n 0, 1) := by decide +kernel
theorem dX4_idleWeeks_1 : decode cX4_idleWeeks 1 = .ok (.getfield 12, 3) := by decide +kernel
theorem dX4_idleWeeks_4 : decode cX4_idleWeeks 4 = .ok (.aload_n 0, 1) := by decide +kernel
theorem dX4_idleWeeks_5 : decode cX4_idleWeeks 5 = .ok (.getfield 18, 3) := by decide +kernel
theorem dX4_idleWeeks_8 : decode cX4_idleWeeks 8 = .ok (.invokevirtual 21, 3) := by decide +kernel
theorem dX4_idleWeeks_11 : decode cX4_idleWeeks 11 = .ok (.iconst 0, 1) := by decide +kernel
theorem dX4_idleWeeks_12 : decode cX4_idleWeeks 12 = .ok (.istore_n 2, 1) := by decide +kernel
theorem dX4_idleWeeks_13 : decode cX4_idleWeeks 13 = .ok (.iconst 0, 1) := by decide +kernel
theorem dX4_idleWeeks_14 : decode cX4_idleWeeks 14 = .ok (.istore_n 3, 1) := by decide +kernel
theorem dX4_idleWeeks_15 : decode cX4_idleWeeks 15 = .ok (.iload_n 3, 1) := by decide +kernel
theorem dX4_idleWeeks_16 : decode cX4_idleWeeks 16 = .ok (.iload_n 1, 1) := by decide +kernel
theorem dX4_idleWeeks_17 : decode cX4_idleWeeks 17 = .ok (.if_icmp .ge 22, 3) := by decide +kernel
theorem dX4_idleWeeks_20 : decode cX4_idleWeeks 20 = .ok (.aload_n 0, 1) := by decide +kernel
theorem dX4_idleWeeks_21 : decode cX4_idleWeeks 21 = .ok (.getfield 12, 3) := by decide +kernel
theorem dX4_idleWeeks_24 : decode cX4_idleWeeks 24 = .ok (.invokevirtual 44, 3) := by decide +kernel
theorem dX4_idleWeeks_27 : decode cX4_idleWeeks 27 = .ok (.ifCond .ne 6, 3) := by decide +kernel
theorem dX4_idleWeeks_30 : decode cX4_idleWeeks 30 = .ok (.iinc 2 1, 3) := by decide +kernel
theorem dX4_idleWeeks_33 : decode cX4_idleWeeks 33 = .ok (.iinc 3 1, 3) := by decide +kernel
theorem dX4_idleWeeks_36 : decode cX4_idleWeeks 36 = .ok (.goto (-21), 3) := by decide +kernel
theorem dX4_idleWeeks_39 : decode cX4_idleWeeks 39 = .ok (.iload_n 2, 1) := by decide +kernel
theorem dX4_idleWeeks_40 : decode cX4_idleWeeks 40 = .ok (.ireturn, 1) := by decide +kernel
theorem dX4_openAsAllIs_0 : decode cX4_openAsAllIs 0 = .ok (.aload_n 0, 1) := by decide +kernel
theorem dX4_openAsAllIs_1 : decode cX4_openAsAllIs 1 = .ok (.getfield 12, 3) := by decide +kernel
theorem dX4_openAsAllIs_4 : decode cX4_openAsAllIs 4 = .ok (.aload_n 0, 1) := by decide +kernel
theorem dX4_openAsAllIs_5 : decode cX4_openAsAllIs 5 = .ok (.getfield 18, 3) := by decide +kernel
theorem dX4_openAsAllIs_8 : decode cX4_openAsAllIs 8 = .ok (.invokevirtual 21, 3) := by decide +kernel
theorem dX4_openAsAllIs_11 : decode cX4_openAsAllIs 11 = .ok (.aload_n 0, 1) := by decide +kernel
theorem dX4_openAsAllIs_12 : decode cX4_openAsAllIs 12 = .ok (.getfield 12, 3) := by decide +kernel
theorem dX4_openAsAllIs_15 : decode cX4_openAsAllIs 15 = .ok (.iload_n 1, 1) := by decide +kernel
theorem dX4_openAsAllIs_16 : decode cX4_openAsAllIs 16 = .ok (.invokevirtual 25, 3) := by decide +kernel
theorem dX4_openAsAllIs_19 : decode cX4_openAsAllIs 19 = .ok (.ireturn, 1) := by decide +kernel
theorem dX4_bestSending_0 : decode cX4_bestSending 0 = .ok (.bipush (-9), 2) := by decide +kernel
theorem dX4_bestSending_2 : decode cX4_bestSending 2 = .ok (.istore_n 2, 1) := by decide +kernel
theorem dX4_bestSending_3 : decode cX4_bestSending 3 = .ok (.aload_n 0, 1) := by decide +kernel
theorem dX4_bestSending_4 : decode cX4_bestSending 4 = .ok (.iload_n 1, 1) := by decide +kernel
theorem dX4_bestSending_5 : decode cX4_bestSending 5 = .ok (.invokevirtual 66, 3) := by decide +kernel
theorem dX4_bestSending_8 : decode cX4_bestSending 8 = .ok (.istore_n 3, 1) := by decide +kernel
theorem dX4_bestSending_9 : decode cX4_bestSending 9 = .ok (.iconst 0, 1) := by decide +kernel
theorem dX4_bestSending_10 : decode cX4_bestSending 10 = .ok (.istore 4, 2) := by decide +kernel
theorem dX4_bestSending_12 : decode cX4_bestSending 12 = .ok (.iload 4, 2) := by decide +kernel
theorem dX4_bestSending_14 : decode cX4_bestSending 14 = .ok (.aload_n 0, 1) := by decide +kernel
theorem dX4_bestSending_15 : decode cX4_bestSending 15 = .ok (.getfield 18, 3) := by decide +kernel
theorem dX4_bestSending_18 : decode cX4_bestSending 18 = .ok (.invokevirtual 69, 3) := by decide +kernel
theorem dX4_bestSending_21 : decode cX4_bestSending 21 = .ok (.if_icmp .ge 88, 3) := by decide +kernel
theorem dX4_bestSending_24 : decode cX4_bestSending 24 = .ok (.iconst 0, 1) := by decide +kernel
theorem dX4_bestSending_25 : decode cX4_bestSending 25 = .ok (.istore 5, 2) := by decide +kernel
theorem dX4_bestSending_27 : decode cX4_bestSending 27 = .ok (.iload 5, 2) := by decide +kernel
theorem dX4_bestSending_29 : decode cX4_bestSending 29 = .ok (.iconst 4, 1) := by decide +kernel
theorem dX4_bestSending_30 : decode cX4_bestSending 30 = .ok (.if_icmp .ge 73, 3) := by decide +kernel
theorem dX4_bestSending_33 : decode cX4_bestSending 33 = .ok (.iload 5, 2) := by decide +kernel
theorem dX4_bestSending_35 : decode cX4_bestSending 35 = .ok (.aload_n 0, 1) := by decide +kernel
theorem dX4_bestSending_36 : decode cX4_bestSending 36 = .ok (.getfield 18, 3) := by decide +kernel
theorem dX4_bestSending_39 : decode cX4_bestSending 39 = .ok (.iload 4, 2) := by decide +kernel
theorem dX4_bestSending_41 : decode cX4_bestSending 41 = .ok (.invokevirtual 72, 3) := by decide +kernel
theorem dX4_bestSending_44 : decode cX4_bestSending 44 = .ok (.if_icmp .eq 53, 3) := by decide +kernel
theorem dX4_bestSending_47 : decode cX4_bestSending 47 = .ok (.aload_n 0, 1) := by decide +kernel
theorem dX4_bestSending_48 : decode cX4_bestSending 48 = .ok (.getfield 12, 3) := by decide +kernel
theorem dX4_bestSending_51 : decode cX4_bestSending 51 = .ok (.aload_n 0, 1) := by decide +kernel
theorem dX4_bestSending_52 : decode cX4_bestSending 52 = .ok (.getfield 18, 3) := by decide +kernel
theorem dX4_bestSending_55 : decode cX4_bestSending 55 = .ok (.invokevirtual 21, 3) := by decide +kernel
theorem dX4_bestSending_58 : decode cX4_bestSending 58 = .ok (.aload_n 0, 1) := by decide +kernel
theorem dX4_bestSending_59 : decode cX4_bestSending 59 = .ok (.getfield 12, 3) := by decide +kernel
theorem dX4_bestSending_62 : decode cX4_bestSending 62 = .ok (.iload 4, 2) := by decide +kernel
theorem dX4_bestSending_64 : decode cX4_bestSending 64 = .ok (.iload 5, 2) := by decide +kernel
theorem dX4_bestSending_66 : decode cX4_bestSending 66 = .ok (.invokevirtual 75, 3) := by decide +kernel
theorem dX4_bestSending_69 : decode cX4_bestSending 69 = .ok (.aload_n 0, 1) := by decide +kernel
theorem dX4_bestSending_70 : decode cX4_bestSending 70 = .ok (.getfield 12, 3) := by decide +kernel
theorem dX4_bestSending_73 : decode cX4_bestSending 73 = .ok (.iload_n 1, 1) := by decide +kernel
theorem dX4_bestSending_74 : decode cX4_bestSending 74 = .ok (.invokevirtual 25, 3) := by decide +kernel
theorem dX4_bestSending_77 : decode cX4_bestSending 77 = .ok (.istore 6, 2) := by decide +kernel
theorem dX4_bestSending_79 : decode cX4_bestSending 79 = .ok (.iload 6, 2) := by decide +kernel
theorem dX4_bestSending_81 : decode cX4_bestSending 81 = .ok (.iload_n 3, 1) := by decide +kernel
theorem dX4_bestSending_82 : decode cX4_bestSending 82 = .ok (.if_icmp .le 15, 3) := by decide +kernel
theorem dX4_bestSending_85 : decode cX4_bestSending 85 = .ok (.iload 6, 2) := by decide +kernel
theorem dX4_bestSending_87 : decode cX4_bestSending 87 = .ok (.istore_n 3, 1) := by decide +kernel
theorem dX4_bestSending_88 : decode cX4_bestSending 88 = .ok (.bipush 10, 2) := by decide +kernel
theorem dX4_bestSending_90 : decode cX4_bestSending 90 = .ok (.iload 4, 2) := by decide +kernel
theorem dX4_bestSending_92 : decode cX4_bestSending 92 = .ok (.imul, 1) := by decide +kernel
theorem dX4_bestSending_93 : decode cX4_bestSending 93 = .ok (.iload 5, 2) := by decide +kernel
theorem dX4_bestSending_95 : decode cX4_bestSending 95 = .ok (.iadd, 1) := by decide +kernel
theorem dX4_bestSending_96 : decode cX4_bestSending 96 = .ok (.istore_n 2, 1) := by decide +kernel
theorem dX4_bestSending_97 : decode cX4_bestSending 97 = .ok (.iinc 5 1, 3) := by decide +kernel
theorem dX4_bestSending_100 : decode cX4_bestSending 100 = .ok (.goto (-73), 3) := by decide +kernel
theorem dX4_bestSending_103 : decode cX4_bestSending 103 = .ok (.iinc 4 1, 3) := by decide +kernel
theorem dX4_bestSending_106 : decode cX4_bestSending 106 = .ok (.goto (-94), 3) := by decide +kernel
theorem dX4_bestSending_109 : decode cX4_bestSending 109 = .ok (.iload_n 2, 1) := by decide +kernel
theorem dX4_bestSending_110 : decode cX4_bestSending 110 = .ok (.ireturn, 1) := by decide +kernel
theorem dX4_bestSwap_0 : decode cX4_bestSwap 0 = .ok (.bipush (-9), 2) := by decide +kernel
theorem dX4_bestSwap_2 : decode cX4_bestSwap 2 = .ok (.istore_n 2, 1) := by decide +kernel
theorem dX4_bestSwap_3 : decode cX4_bestSwap 3 = .ok (.aload_n 0, 1) := by decide +kernel
theorem dX4_bestSwap_4 : decode cX4_bestSwap 4 = .ok (.iload_n 1, 1) := by decide +kernel
theorem dX4_bestSwap_5 : decode cX4_bestSwap 5 = .ok (.invokevirtual 66, 3) := by decide +kernel
theorem dX4_bestSwap_8 : decode cX4_bestSwap 8 = .ok (.istore_n 3, 1) := by decide +kernel
theorem dX4_bestSwap_9 : decode cX4_bestSwap 9 = .ok (.iconst 0, 1) := by decide +kernel
theorem dX4_bestSwap_10 : decode cX4_bestSwap 10 = .ok (.istore 4, 2) := by decide +kernel
theorem dX4_bestSwap_12 : decode cX4_bestSwap 12 = .ok (.iload 4, 2) := by decide +kernel
theorem dX4_bestSwap_14 : decode cX4_bestSwap 14 = .ok (.aload_n 0, 1) := by decide +kernel
theorem dX4_bestSwap_15 : decode cX4_bestSwap 15 = .ok (.getfield 18, 3) := by decide +kernel
theorem dX4_bestSwap_18 : decode cX4_bestSwap 18 = .ok (.invokevirtual 69, 3) := by decide +kernel
theorem dX4_bestSwap_21 : decode cX4_bestSwap 21 = .ok (.if_icmp .ge 128, 3) := by decide +kernel
theorem dX4_bestSwap_24 : decode cX4_bestSwap 24 = .ok (.iload 4, 2) := by decide +kernel
theorem dX4_bestSwap_26 : decode cX4_bestSwap 26 = .ok (.iconst 1, 1) := by decide +kernel
theorem dX4_bestSwap_27 : decode cX4_bestSwap 27 = .ok (.iadd, 1) := by decide +kernel
theorem dX4_bestSwap_28 : decode cX4_bestSwap 28 = .ok (.istore 5, 2) := by decide +kernel
theorem dX4_bestSwap_30 : decode cX4_bestSwap 30 = .ok (.iload 5, 2) := by decide +kernel
theorem dX4_bestSwap_32 : decode cX4_bestSwap 32 = .ok (.aload_n 0, 1) := by decide +kernel
theorem dX4_bestSwap_33 : decode cX4_bestSwap 33 = .ok (.getfield 18, 3) := by decide +kernel
theorem dX4_bestSwap_36 : decode cX4_bestSwap 36 = .ok (.invokevirtual 69, 3) := by decide +kernel
theorem dX4_bestSwap_39 : decode cX4_bestSwap 39 = .ok (.if_icmp .ge 104, 3) := by decide +kernel
theorem dX4_bestSwap_42 : decode cX4_bestSwap 42 = .ok (.aload_n 0, 1) := by decide +kernel
theorem dX4_bestSwap_43 : decode cX4_bestSwap 43 = .ok (.getfield 18, 3) := by decide +kernel
theorem dX4_bestSwap_46 : decode cX4_bestSwap 46 = .ok (.iload 4, 2) := by decide +kernel
theorem dX4_bestSwap_48 : decode cX4_bestSwap 48 = .ok (.invokevirtual 72, 3) := by decide +kernel
theorem dX4_bestSwap_51 : decode cX4_bestSwap 51 = .ok (.aload_n 0, 1) := by decide +kernel
theorem dX4_bestSwap_52 : decode cX4_bestSwap 52 = .ok (.getfield 18, 3) := by decide +kernel
theorem dX4_bestSwap_55 : decode cX4_bestSwap 55 = .ok (.iload 5, 2) := by decide +kernel
theorem dX4_bestSwap_57 : decode cX4_bestSwap 57 = .ok (.invokevirtual 72, 3) := by decide +kernel
theorem dX4_bestSwap_60 : decode cX4_bestSwap 60 = .ok (.if_icmp .eq 77, 3) := by decide +kernel
theorem dX4_bestSwap_63 : decode cX4_bestSwap 63 = .ok (.aload_n 0, 1) := by decide +kernel
theorem dX4_bestSwap_64 : decode cX4_bestSwap 64 = .ok (.getfield 12, 3) := by decide +kernel
theorem dX4_bestSwap_67 : decode cX4_bestSwap 67 = .ok (.aload_n 0, 1) := by decide +kernel
theorem dX4_bestSwap_68 : decode cX4_bestSwap 68 = .ok (.getfield 18, 3) := by decide +kernel
theorem dX4_bestSwap_71 : decode cX4_bestSwap 71 = .ok (.invokevirtual 21, 3) := by decide +kernel
theorem dX4_bestSwap_74 : decode cX4_bestSwap 74 = .ok (.aload_n 0, 1) := by decide +kernel
theorem dX4_bestSwap_75 : decode cX4_bestSwap 75 = .ok (.getfield 12, 3) := by decide +kernel
theorem dX4_bestSwap_78 : decode cX4_bestSwap 78 = .ok (.iload 4, 2) := by decide +kernel
theorem dX4_bestSwap_80 : decode cX4_bestSwap 80 = .ok (.aload_n 0, 1) := by decide +kernel
theorem dX4_bestSwap_81 : decode cX4_bestSwap 81 = .ok (.getfield 18, 3) := by decide +kernel
theorem dX4_bestSwap_84 : decode cX4_bestSwap 84 = .ok (.iload 5, 2) := by decide +kernel
theorem dX4_bestSwap_86 : decode cX4_bestSwap 86 = .ok (.invokevirtual 72, 3) := by decide +kernel
theorem dX4_bestSwap_89 : decode cX4_bestSwap 89 = .ok (.invokevirtual 75, 3) := by decide +kernel
theorem dX4_bestSwap_92 : decode cX4_bestSwap 92 = .ok (.aload_n 0, 1) := by decide +kernel
theorem dX4_bestSwap_93 : decode cX4_bestSwap 93 = .ok (.getfield 12, 3) := by decide +kernel
theorem dX4_bestSwap_96 : decode cX4_bestSwap 96 = .ok (.iload 5, 2) := by decide +kernel
theorem dX4_bestSwap_98 : decode cX4_bestSwap 98 = .ok (.aload_n 0, 1) := by decide +kernel
theorem dX4_bestSwap_99 : decode cX4_bestSwap 99 = .ok (.getfield 18, 3) := by decide +kernel
theorem dX4_bestSwap_102 : decode cX4_bestSwap 102 = .ok (.iload 4, 2) := by decide +kernel
theorem dX4_bestSwap_104 : decode cX4_bestSwap 104 = .ok (.invokevirtual 72, 3) := by decide +kernel
theorem dX4_bestSwap_107 : decode cX4_bestSwap 107 = .ok (.invokevirtual 75, 3) := by decide +kernel
theorem dX4_bestSwap_110 : decode cX4_bestSwap 110 = .ok (.aload_n 0, 1) := by decide +kernel
theorem dX4_bestSwap_111 : decode cX4_bestSwap 111 = .ok (.getfield 12, 3) := by decide +kernel
theorem dX4_bestSwap_114 : decode cX4_bestSwap 114 = .ok (.iload_n 1, 1) := by decide +kernel
theorem dX4_bestSwap_115 : decode cX4_bestSwap 115 = .ok (.invokevirtual 25, 3) := by decide +kernel
theorem dX4_bestSwap_118 : decode cX4_bestSwap 118 = .ok (.istore 6, 2) := by decide +kernel
theorem dX4_bestSwap_120 : decode cX4_bestSwap 120 = .ok (.iload 6, 2) := by decide +kernel
theorem dX4_bestSwap_122 : decode cX4_bestSwap 122 = .ok (.iload_n 3, 1) := by decide +kernel
theorem dX4_bestSwap_123 : decode cX4_bestSwap 123 = .ok (.if_icmp .le 14, 3) := by decide +kernel
theorem dX4_bestSwap_126 : decode cX4_bestSwap 126 = .ok (.iload 6, 2) := by decide +kernel
theorem dX4_bestSwap_128 : decode cX4_bestSwap 128 = .ok (.istore_n 3, 1) := by decide +kernel
theorem dX4_bestSwap_129 : decode cX4_bestSwap 129 = .ok (.iload 4, 2) := by decide +kernel
theorem dX4_bestSwap_131 : decode cX4_bestSwap 131 = .ok (.iload 5, 2) := by decide +kernel
theorem dX4_bestSwap_133 : decode cX4_bestSwap 133 = .ok (.invokestatic 63, 3) := by decide +kernel
theorem dX4_bestSwap_136 : decode cX4_bestSwap 136 = .ok (.istore_n 2, 1) := by decide +kernel
theorem dX4_bestSwap_137 : decode cX4_bestSwap 137 = .ok (.iinc 5 1, 3) := by decide +kernel
theorem dX4_bestSwap_140 : decode cX4_bestSwap 140 = .ok (.goto (-110), 3) := by decide +kernel
theorem dX4_bestSwap_143 : decode cX4_bestSwap 143 = .ok (.iinc 4 1, 3) := by decide +kernel
theorem dX4_bestSwap_146 : decode cX4_bestSwap 146 = .ok (.goto (-134), 3) := by decide +kernel
theorem dX4_bestSwap_149 : decode cX4_bestSwap 149 = .ok (.iload_n 2, 1) := by decide +kernel
theorem dX4_bestSwap_150 : decode cX4_bestSwap 150 = .ok (.ireturn, 1) := by decide +kernel
theorem dX4_bestPlaces_0 : decode cX4_bestPlaces 0 = .ok (.iconst 0, 1) := by decide +kernel
theorem dX4_bestPlaces_1 : decode cX4_bestPlaces 1 = .ok (.istore 5, 2) := by decide +kernel
theorem dX4_bestPlaces_3 : decode cX4_bestPlaces 3 = .ok (.iconst (-1), 1) := by decide +kernel
theorem dX4_bestPlaces_4 : decode cX4_bestPlaces 4 = .ok (.istore 6, 2) := by decide +kernel
theorem dX4_bestPlaces_6 : decode cX4_bestPlaces 6 = .ok (.iconst 0, 1) := by decide +kernel
theorem dX4_bestPlaces_7 : decode cX4_bestPlaces 7 = .ok (.istore 7, 2) := by decide +kernel
theorem dX4_bestPlaces_9 : decode cX4_bestPlaces 9 = .ok (.iload 7, 2) := by decide +kernel
theorem dX4_bestPlaces_11 : decode cX4_bestPlaces 11 = .ok (.bipush 64, 2) := by decide +kernel
theorem dX4_bestPlaces_13 : decode cX4_bestPlaces 13 = .ok (.if_icmp .ge 62, 3) := by decide +kernel
theorem dX4_bestPlaces_16 : decode cX4_bestPlaces 16 = .ok (.iload 7, 2) := by decide +kernel
theorem dX4_bestPlaces_18 : decode cX4_bestPlaces 18 = .ok (.bipush 16, 2) := by decide +kernel
theorem dX4_bestPlaces_20 : decode cX4_bestPlaces 20 = .ok (.idiv, 1) := by decide +kernel
theorem dX4_bestPlaces_21 : decode cX4_bestPlaces 21 = .ok (.bipush 100, 2) := by decide +kernel
theorem dX4_bestPlaces_23 : decode cX4_bestPlaces 23 = .ok (.imul, 1) := by decide +kernel
theorem dX4_bestPlaces_24 : decode cX4_bestPlaces 24 = .ok (.iload 7, 2) := by decide +kernel
theorem dX4_bestPlaces_26 : decode cX4_bestPlaces 26 = .ok (.iconst 4, 1) := by decide +kernel
theorem dX4_bestPlaces_27 : decode cX4_bestPlaces 27 = .ok (.idiv, 1) := by decide +kernel
theorem dX4_bestPlaces_28 : decode cX4_bestPlaces 28 = .ok (.iconst 4, 1) := by decide +kernel
theorem dX4_bestPlaces_29 : decode cX4_bestPlaces 29 = .ok (.irem, 1) := by decide +kernel
theorem dX4_bestPlaces_30 : decode cX4_bestPlaces 30 = .ok (.bipush 10, 2) := by decide +kernel
theorem dX4_bestPlaces_32 : decode cX4_bestPlaces 32 = .ok (.imul, 1) := by decide +kernel
theorem dX4_bestPlaces_33 : decode cX4_bestPlaces 33 = .ok (.iadd, 1) := by decide +kernel
theorem dX4_bestPlaces_34 : decode cX4_bestPlaces 34 = .ok (.iload 7, 2) := by decide +kernel
theorem dX4_bestPlaces_36 : decode cX4_bestPlaces 36 = .ok (.iconst 4, 1) := by decide +kernel
theorem dX4_bestPlaces_37 : decode cX4_bestPlaces 37 = .ok (.irem, 1) := by decide +kernel
theorem dX4_bestPlaces_38 : decode cX4_bestPlaces 38 = .ok (.iadd, 1) := by decide +kernel
theorem dX4_bestPlaces_39 : decode cX4_bestPlaces 39 = .ok (.istore 8, 2) := by decide +kernel
theorem dX4_bestPlaces_41 : decode cX4_bestPlaces 41 = .ok (.aload_n 0, 1) := by decide +kernel
theorem dX4_bestPlaces_42 : decode cX4_bestPlaces 42 = .ok (.iload_n 1, 1) := by decide +kernel
theorem dX4_bestPlaces_43 : decode cX4_bestPlaces 43 = .ok (.iload_n 2, 1) := by decide +kernel
theorem dX4_bestPlaces_44 : decode cX4_bestPlaces 44 = .ok (.iload_n 3, 1) := by decide +kernel
theorem dX4_bestPlaces_45 : decode cX4_bestPlaces 45 = .ok (.iload 4, 2) := by decide +kernel
theorem dX4_bestPlaces_47 : decode cX4_bestPlaces 47 = .ok (.iload 8, 2) := by decide +kernel
theorem dX4_bestPlaces_49 : decode cX4_bestPlaces 49 = .ok (.invokevirtual 79, 3) := by decide +kernel
theorem dX4_bestPlaces_52 : decode cX4_bestPlaces 52 = .ok (.istore 9, 2) := by decide +kernel
theorem dX4_bestPlaces_54 : decode cX4_bestPlaces 54 = .ok (.iload 9, 2) := by decide +kernel
theorem dX4_bestPlaces_56 : decode cX4_bestPlaces 56 = .ok (.iload 6, 2) := by decide +kernel
theorem dX4_bestPlaces_58 : decode cX4_bestPlaces 58 = .ok (.if_icmp .le 11, 3) := by decide +kernel
theorem dX4_bestPlaces_61 : decode cX4_bestPlaces 61 = .ok (.iload 9, 2) := by decide +kernel
theorem dX4_bestPlaces_63 : decode cX4_bestPlaces 63 = .ok (.istore 6, 2) := by decide +kernel
theorem dX4_bestPlaces_65 : decode cX4_bestPlaces 65 = .ok (.iload 8, 2) := by decide +kernel
theorem dX4_bestPlaces_67 : decode cX4_bestPlaces 67 = .ok (.istore 5, 2) := by decide +kernel
theorem dX4_bestPlaces_69 : decode cX4_bestPlaces 69 = .ok (.iinc 7 1, 3) := by decide +kernel
theorem dX4_bestPlaces_72 : decode cX4_bestPlaces 72 = .ok (.goto (-63), 3) := by decide +kernel
theorem dX4_bestPlaces_75 : decode cX4_bestPlaces 75 = .ok (.iload 5, 2) := by decide +kernel
theorem dX4_bestPlaces_77 : decode cX4_bestPlaces 77 = .ok (.ireturn, 1) := by decide +kernel
theorem dX4_openPlaced_0 : decode cX4_openPlaced 0 = .ok (.aload_n 0, 1) := by decide +kernel
theorem dX4_openPlaced_1 : decode cX4_openPlaced 1 = .ok (.getfield 12, 3) := by decide +kernel
theorem dX4_openPlaced_4 : decode cX4_openPlaced 4 = .ok (.aload_n 0, 1) := by decide +kernel
theorem dX4_openPlaced_5 : decode cX4_openPlaced 5 = .ok (.getfield 18, 3) := by decide +kernel
theorem dX4_openPlaced_8 : decode cX4_openPlaced 8 = .ok (.invokevirtual 21, 3) := by decide +kernel
theorem dX4_openPlaced_11 : decode cX4_openPlaced 11 = .ok (.aload_n 0, 1) := by decide +kernel
theorem dX4_openPlaced_12 : decode cX4_openPlaced 12 = .ok (.getfield 12, 3) := by decide +kernel
theorem dX4_openPlaced_15 : decode cX4_openPlaced 15 = .ok (.iload_n 1, 1) := by decide +kernel
theorem dX4_openPlaced_16 : decode cX4_openPlaced 16 = .ok (.iload 5, 2) := by decide +kernel
theorem dX4_openPlaced_18 : decode cX4_openPlaced 18 = .ok (.bipush 100, 2) := by decide +kernel
theorem dX4_openPlaced_20 : decode cX4_openPlaced 20 = .ok (.idiv, 1) := by decide +kernel
theorem dX4_openPlaced_21 : decode cX4_openPlaced 21 = .ok (.invokevirtual 75, 3) := by decide +kernel
theorem dX4_openPlaced_24 : decode cX4_openPlaced 24 = .ok (.aload_n 0, 1) := by decide +kernel
theorem dX4_openPlaced_25 : decode cX4_openPlaced 25 = .ok (.getfield 12, 3) := by decide +kernel
theorem dX4_openPlaced_28 : decode cX4_openPlaced 28 = .ok (.iload_n 2, 1) := by decide +kernel
theorem dX4_openPlaced_29 : decode cX4_openPlaced 29 = .ok (.iload 5, 2) := by decide +kernel
theorem dX4_openPlaced_31 : decode cX4_openPlaced 31 = .ok (.bipush 10, 2) := by decide +kernel
theorem dX4_openPlaced_33 : decode cX4_openPlaced 33 = .ok (.idiv, 1) := by decide +kernel
theorem dX4_openPlaced_34 : decode cX4_openPlaced 34 = .ok (.bipush 10, 2) := by decide +kernel
theorem dX4_openPlaced_36 : decode cX4_openPlaced 36 = .ok (.irem, 1) := by decide +kernel
theorem dX4_openPlaced_37 : decode cX4_openPlaced 37 = .ok (.invokevirtual 75, 3) := by decide +kernel
theorem dX4_openPlaced_40 : decode cX4_openPlaced 40 = .ok (.aload_n 0, 1) := by decide +kernel
theorem dX4_openPlaced_41 : decode cX4_openPlaced 41 = .ok (.getfield 12, 3) := by decide +kernel
theorem dX4_openPlaced_44 : decode cX4_openPlaced 44 = .ok (.iload_n 3, 1) := by decide +kernel
theorem dX4_openPlaced_45 : decode cX4_openPlaced 45 = .ok (.iload 5, 2) := by decide +kernel
theorem dX4_openPlaced_47 : decode cX4_openPlaced 47 = .ok (.bipush 10, 2) := by decide +kernel
theorem dX4_openPlaced_49 : decode cX4_openPlaced 49 = .ok (.irem, 1) := by decide +kernel
theorem dX4_openPlaced_50 : decode cX4_openPlaced 50 = .ok (.invokevirtual 75, 3) := by decide +kernel
theorem dX4_openPlaced_53 : decode cX4_openPlaced 53 = .ok (.aload_n 0, 1) := by decide +kernel
theorem dX4_openPlaced_54 : decode cX4_openPlaced 54 = .ok (.getfield 12, 3) := by decide +kernel
theorem dX4_openPlaced_57 : decode cX4_openPlaced 57 = .ok (.iload 4, 2) := by decide +kernel
theorem dX4_openPlaced_59 : decode cX4_openPlaced 59 = .ok (.invokevirtual 25, 3) := by decide +kernel
theorem dX4_openPlaced_62 : decode cX4_openPlaced 62 = .ok (.ireturn, 1) := by decide +kernel
theorem dX4_fewestKept_0 : decode cX4_fewestKept 0 = .ok (.iconst 1, 1) := by decide +kernel
theorem dX4_fewestKept_1 : decode cX4_fewestKept 1 = .ok (.aload_n 0, 1) := by decide +kernel
theorem dX4_fewestKept_2 : decode cX4_fewestKept 2 = .ok (.getfield 18, 3) := by decide +kernel
theorem dX4_fewestKept_5 : decode cX4_fewestKept 5 = .ok (.invokevirtual 69, 3) := by decide +kernel
theorem dX4_fewestKept_8 : decode cX4_fewestKept 8 = .ok (.ishl, 1) := by decide +kernel
theorem dX4_fewestKept_9 : decode cX4_fewestKept 9 = .ok (.iconst 1, 1) := by decide +kernel
theorem dX4_fewestKept_10 : decode cX4_fewestKept 10 = .ok (.isub, 1) := by decide +kernel
theorem dX4_fewestKept_11 : decode cX4_fewestKept 11 = .ok (.istore_n 2, 1) := by decide +kernel
theorem dX4_fewestKept_12 : decode cX4_fewestKept 12 = .ok (.aload_n 0, 1) := by decide +kernel
theorem dX4_fewestKept_13 : decode cX4_fewestKept 13 = .ok (.iload_n 1, 1) := by decide +kernel
theorem dX4_fewestKept_14 : decode cX4_fewestKept 14 = .ok (.invokevirtual 66, 3) := by decide +kernel
theorem dX4_fewestKept_17 : decode cX4_fewestKept 17 = .ok (.istore_n 3, 1) := by decide +kernel
theorem dX4_fewestKept_18 : decode cX4_fewestKept 18 = .ok (.iload_n 2, 1) := by decide +kernel
theorem dX4_fewestKept_19 : decode cX4_fewestKept 19 = .ok (.istore 4, 2) := by decide +kernel
theorem dX4_fewestKept_21 : decode cX4_fewestKept 21 = .ok (.iconst 0, 1) := by decide +kernel
theorem dX4_fewestKept_22 : decode cX4_fewestKept 22 = .ok (.istore 5, 2) := by decide +kernel
theorem dX4_fewestKept_24 : decode cX4_fewestKept 24 = .ok (.iload 5, 2) := by decide +kernel
theorem dX4_fewestKept_26 : decode cX4_fewestKept 26 = .ok (.iload_n 2, 1) := by decide +kernel
theorem dX4_fewestKept_27 : decode cX4_fewestKept 27 = .ok (.if_icmp .ge 49, 3) := by decide +kernel
theorem dX4_fewestKept_30 : decode cX4_fewestKept 30 = .ok (.iload 5, 2) := by decide +kernel
theorem dX4_fewestKept_32 : decode cX4_fewestKept 32 = .ok (.invokestatic 83, 3) := by decide +kernel
theorem dX4_fewestKept_35 : decode cX4_fewestKept 35 = .ok (.iload 4, 2) := by decide +kernel
theorem dX4_fewestKept_37 : decode cX4_fewestKept 37 = .ok (.invokestatic 83, 3) := by decide +kernel
theorem dX4_fewestKept_40 : decode cX4_fewestKept 40 = .ok (.if_icmp .ge 7, 3) := by decide +kernel
theorem dX4_fewestKept_43 : decode cX4_fewestKept 43 = .ok (.iconst 1, 1) := by decide +kernel
theorem dX4_fewestKept_44 : decode cX4_fewestKept 44 = .ok (.goto 4, 3) := by decide +kernel
theorem dX4_fewestKept_47 : decode cX4_fewestKept 47 = .ok (.iconst 0, 1) := by decide +kernel
theorem dX4_fewestKept_48 : decode cX4_fewestKept 48 = .ok (.istore 6, 2) := by decide +kernel
theorem dX4_fewestKept_50 : decode cX4_fewestKept 50 = .ok (.iload 6, 2) := by decide +kernel
theorem dX4_fewestKept_52 : decode cX4_fewestKept 52 = .ok (.ifCond .eq 18, 3) := by decide +kernel
theorem dX4_fewestKept_55 : decode cX4_fewestKept 55 = .ok (.aload_n 0, 1) := by decide +kernel
theorem dX4_fewestKept_56 : decode cX4_fewestKept 56 = .ok (.iload 5, 2) := by decide +kernel
theorem dX4_fewestKept_58 : decode cX4_fewestKept 58 = .ok (.iload_n 1, 1) := by decide +kernel
theorem dX4_fewestKept_59 : decode cX4_fewestKept 59 = .ok (.invokevirtual 88, 3) := by decide +kernel
theorem dX4_fewestKept_62 : decode cX4_fewestKept 62 = .ok (.iload_n 3, 1) := by decide +kernel
theorem dX4_fewestKept_63 : decode cX4_fewestKept 63 = .ok (.if_icmp .lt 7, 3) := by decide +kernel
theorem dX4_fewestKept_66 : decode cX4_fewestKept 66 = .ok (.iload 5, 2) := by decide +kernel
theorem dX4_fewestKept_68 : decode cX4_fewestKept 68 = .ok (.istore 4, 2) := by decide +kernel
theorem dX4_fewestKept_70 : decode cX4_fewestKept 70 = .ok (.iinc 5 1, 3) := by decide +kernel
theorem dX4_fewestKept_73 : decode cX4_fewestKept 73 = .ok (.goto (-49), 3) := by decide +kernel
theorem dX4_fewestKept_76 : decode cX4_fewestKept 76 = .ok (.iload 4, 2) := by decide +kernel
theorem dX4_fewestKept_78 : decode cX4_fewestKept 78 = .ok (.ireturn, 1) := by decide +kernel
theorem dX4_openKept_0 : decode cX4_openKept 0 = .ok (.aload_n 0, 1) := by decide +kernel
theorem dX4_openKept_1 : decode cX4_openKept 1 = .ok (.getfield 12, 3) := by decide +kernel
theorem dX4_openKept_4 : decode cX4_openKept 4 = .ok (.aload_n 0, 1) := by decide +kernel
theorem dX4_openKept_5 : decode cX4_openKept 5 = .ok (.getfield 18, 3) := by decide +kernel
theorem dX4_openKept_8 : decode cX4_openKept 8 = .ok (.invokevirtual 21, 3) := by decide +kernel
theorem dX4_openKept_11 : decode cX4_openKept 11 = .ok (.iconst 0, 1) := by decide +kernel
theorem dX4_openKept_12 : decode cX4_openKept 12 = .ok (.istore_n 3, 1) := by decide +kernel
theorem dX4_openKept_13 : decode cX4_openKept 13 = .ok (.iload_n 3, 1) := by decide +kernel
theorem dX4_openKept_14 : decode cX4_openKept 14 = .ok (.aload_n 0, 1) := by decide +kernel
theorem dX4_openKept_15 : decode cX4_openKept 15 = .ok (.getfield 18, 3) := by decide +kernel
theorem dX4_openKept_18 : decode cX4_openKept 18 = .ok (.invokevirtual 69, 3) := by decide +kernel
theorem dX4_openKept_21 : decode cX4_openKept 21 = .ok (.if_icmp .ge 26, 3) := by decide +kernel
theorem dX4_openKept_24 : decode cX4_openKept 24 = .ok (.iload_n 1, 1) := by decide +kernel
theorem dX4_openKept_25 : decode cX4_openKept 25 = .ok (.iload_n 3, 1) := by decide +kernel
theorem dX4_openKept_26 : decode cX4_openKept 26 = .ok (.invokestatic 56, 3) := by decide +kernel
theorem dX4_openKept_29 : decode cX4_openKept 29 = .ok (.ifCond .ne 12, 3) := by decide +kernel
theorem dX4_openKept_32 : decode cX4_openKept 32 = .ok (.aload_n 0, 1) := by decide +kernel
theorem dX4_openKept_33 : decode cX4_openKept 33 = .ok (.getfield 12, 3) := by decide +kernel
theorem dX4_openKept_36 : decode cX4_openKept 36 = .ok (.iload_n 3, 1) := by decide +kernel
theorem dX4_openKept_37 : decode cX4_openKept 37 = .ok (.iconst (-1), 1) := by decide +kernel
theorem dX4_openKept_38 : decode cX4_openKept 38 = .ok (.invokevirtual 75, 3) := by decide +kernel
theorem dX4_openKept_41 : decode cX4_openKept 41 = .ok (.iinc 3 1, 3) := by decide +kernel
theorem dX4_openKept_44 : decode cX4_openKept 44 = .ok (.goto (-31), 3) := by decide +kernel
theorem dX4_openKept_47 : decode cX4_openKept 47 = .ok (.aload_n 0, 1) := by decide +kernel
theorem dX4_openKept_48 : decode cX4_openKept 48 = .ok (.getfield 12, 3) := by decide +kernel
theorem dX4_openKept_51 : decode cX4_openKept 51 = .ok (.iload_n 2, 1) := by decide +kernel
theorem dX4_openKept_52 : decode cX4_openKept 52 = .ok (.invokevirtual 25, 3) := by decide +kernel
theorem dX4_openKept_55 : decode cX4_openKept 55 = .ok (.ireturn, 1) := by decide +kernel
theorem dX4_fittingHate_0 : decode cX4_fittingHate 0 = .ok (.iconst 0, 1) := by decide +kernel
theorem dX4_fittingHate_1 : decode cX4_fittingHate 1 = .ok (.istore 5, 2) := by decide +kernel
theorem dX4_fittingHate_3 : decode cX4_fittingHate 3 = .ok (.bipush (-9), 2) := by decide +kernel
theorem dX4_fittingHate_5 : decode cX4_fittingHate 5 = .ok (.istore 6, 2) := by decide +kernel
theorem dX4_fittingHate_7 : decode cX4_fittingHate 7 = .ok (.bipush (-9), 2) := by decide +kernel
theorem dX4_fittingHate_9 : decode cX4_fittingHate 9 = .ok (.istore 7, 2) := by decide +kernel
theorem dX4_fittingHate_11 : decode cX4_fittingHate 11 = .ok (.iconst 0, 1) := by decide +kernel
theorem dX4_fittingHate_12 : decode cX4_fittingHate 12 = .ok (.istore 8, 2) := by decide +kernel
theorem dX4_fittingHate_14 : decode cX4_fittingHate 14 = .ok (.iload 8, 2) := by decide +kernel
theorem dX4_fittingHate_16 : decode cX4_fittingHate 16 = .ok (.bipush 99, 2) := by decide +kernel
theorem dX4_fittingHate_18 : decode cX4_fittingHate 18 = .ok (.if_icmp .gt 62, 3) := by decide +kernel
theorem dX4_fittingHate_21 : decode cX4_fittingHate 21 = .ok (.aload_n 0, 1) := by decide +kernel
theorem dX4_fittingHate_22 : decode cX4_fittingHate 22 = .ok (.getfield 12, 3) := by decide +kernel
theorem dX4_fittingHate_25 : decode cX4_fittingHate 25 = .ok (.aload_n 0, 1) := by decide +kernel
theorem dX4_fittingHate_26 : decode cX4_fittingHate 26 = .ok (.getfield 18, 3) := by decide +kernel
theorem dX4_fittingHate_29 : decode cX4_fittingHate 29 = .ok (.invokevirtual 21, 3) := by decide +kernel
theorem dX4_fittingHate_32 : decode cX4_fittingHate 32 = .ok (.aload_n 0, 1) := by decide +kernel
theorem dX4_fittingHate_33 : decode cX4_fittingHate 33 = .ok (.getfield 12, 3) := by decide +kernel
theorem dX4_fittingHate_36 : decode cX4_fittingHate 36 = .ok (.iload_n 1, 1) := by decide +kernel
theorem dX4_fittingHate_37 : decode cX4_fittingHate 37 = .ok (.iload_n 2, 1) := by decide +kernel
theorem dX4_fittingHate_38 : decode cX4_fittingHate 38 = .ok (.iload 8, 2) := by decide +kernel
theorem dX4_fittingHate_40 : decode cX4_fittingHate 40 = .ok (.invokevirtual 59, 3) := by decide +kernel
theorem dX4_fittingHate_43 : decode cX4_fittingHate 43 = .ok (.aload_n 0, 1) := by decide +kernel
theorem dX4_fittingHate_44 : decode cX4_fittingHate 44 = .ok (.aload_n 3, 1) := by decide +kernel
theorem dX4_fittingHate_45 : decode cX4_fittingHate 45 = .ok (.invokevirtual 91, 3) := by decide +kernel
theorem dX4_fittingHate_48 : decode cX4_fittingHate 48 = .ok (.ifCond .eq 26, 3) := by decide +kernel
theorem dX4_fittingHate_51 : decode cX4_fittingHate 51 = .ok (.iinc 5 1, 3) := by decide +kernel
theorem dX4_fittingHate_54 : decode cX4_fittingHate 54 = .ok (.iload 6, 2) := by decide +kernel
theorem dX4_fittingHate_56 : decode cX4_fittingHate 56 = .ok (.bipush (-9), 2) := by decide +kernel
theorem dX4_fittingHate_58 : decode cX4_fittingHate 58 = .ok (.if_icmp .ne 8, 3) := by decide +kernel
theorem dX4_fittingHate_61 : decode cX4_fittingHate 61 = .ok (.iload 8, 2) := by decide +kernel
theorem dX4_fittingHate_63 : decode cX4_fittingHate 63 = .ok (.goto 5, 3) := by decide +kernel
theorem dX4_fittingHate_66 : decode cX4_fittingHate 66 = .ok (.iload 6, 2) := by decide +kernel
theorem dX4_fittingHate_68 : decode cX4_fittingHate 68 = .ok (.istore 6, 2) := by decide +kernel
theorem dX4_fittingHate_70 : decode cX4_fittingHate 70 = .ok (.iload 8, 2) := by decide +kernel
theorem dX4_fittingHate_72 : decode cX4_fittingHate 72 = .ok (.istore 7, 2) := by decide +kernel
theorem dX4_fittingHate_74 : decode cX4_fittingHate 74 = .ok (.iinc 8 1, 3) := by decide +kernel
theorem dX4_fittingHate_77 : decode cX4_fittingHate 77 = .ok (.goto (-63), 3) := by decide +kernel
theorem dX4_fittingHate_80 : decode cX4_fittingHate 80 = .ok (.iload 4, 2) := by decide +kernel
theorem dX4_fittingHate_82 : decode cX4_fittingHate 82 = .ok (.ifCond .ne 8, 3) := by decide +kernel
theorem dX4_fittingHate_85 : decode cX4_fittingHate 85 = .ok (.iload 5, 2) := by decide +kernel
theorem dX4_fittingHate_87 : decode cX4_fittingHate 87 = .ok (.goto 16, 3) := by decide +kernel
theorem dX4_fittingHate_90 : decode cX4_fittingHate 90 = .ok (.iload 4, 2) := by decide +kernel
theorem dX4_fittingHate_92 : decode cX4_fittingHate 92 = .ok (.iconst 1, 1) := by decide +kernel
theorem dX4_fittingHate_93 : decode cX4_fittingHate 93 = .ok (.if_icmp .ne 8, 3) := by decide +kernel
theorem dX4_fittingHate_96 : decode cX4_fittingHate 96 = .ok (.iload 6, 2) := by decide +kernel
theorem dX4_fittingHate_98 : decode cX4_fittingHate 98 = .ok (.goto 5, 3) := by decide +kernel
theorem dX4_fittingHate_101 : decode cX4_fittingHate 101 = .ok (.iload 7, 2) := by decide +kernel
theorem dX4_fittingHate_103 : decode cX4_fittingHate 103 = .ok (.ireturn, 1) := by decide +kernel
theorem dX4_opensAsTold_0 : decode cX4_opensAsTold 0 = .ok (.aload_n 1, 1) := by decide +kernel
theorem dX4_opensAsTold_1 : decode cX4_opensAsTold 1 = .ok (.ifnonnull 5, 3) := by decide +kernel
theorem dX4_opensAsTold_4 : decode cX4_opensAsTold 4 = .ok (.iconst 0, 1) := by decide +kernel
theorem dX4_opensAsTold_5 : decode cX4_opensAsTold 5 = .ok (.ireturn, 1) := by decide +kernel
theorem dX4_opensAsTold_6 : decode cX4_opensAsTold 6 = .ok (.iconst 0, 1) := by decide +kernel
theorem dX4_opensAsTold_7 : decode cX4_opensAsTold 7 = .ok (.istore_n 2, 1) := by decide +kernel
theorem dX4_opensAsTold_8 : decode cX4_opensAsTold 8 = .ok (.iload_n 2, 1) := by decide +kernel
theorem dX4_opensAsTold_9 : decode cX4_opensAsTold 9 = .ok (.aload_n 1, 1) := by decide +kernel
theorem dX4_opensAsTold_10 : decode cX4_opensAsTold 10 = .ok (.invokevirtual 95, 3) := by decide +kernel
theorem dX4_opensAsTold_13 : decode cX4_opensAsTold 13 = .ok (.if_icmp .ge 34, 3) := by decide +kernel
theorem dX4_opensAsTold_16 : decode cX4_opensAsTold 16 = .ok (.aload_n 0, 1) := by decide +kernel
theorem dX4_opensAsTold_17 : decode cX4_opensAsTold 17 = .ok (.getfield 12, 3) := by decide +kernel
theorem dX4_opensAsTold_20 : decode cX4_opensAsTold 20 = .ok (.invokevirtual 100, 3) := by decide +kernel
theorem dX4_opensAsTold_23 : decode cX4_opensAsTold 23 = .ok (.aload_n 1, 1) := by decide +kernel
theorem dX4_opensAsTold_24 : decode cX4_opensAsTold 24 = .ok (.iload_n 2, 1) := by decide +kernel
theorem dX4_opensAsTold_25 : decode cX4_opensAsTold 25 = .ok (.invokevirtual 103, 3) := by decide +kernel
theorem dX4_opensAsTold_28 : decode cX4_opensAsTold 28 = .ok (.if_icmp .eq 5, 3) := by decide +kernel
theorem dX4_opensAsTold_31 : decode cX4_opensAsTold 31 = .ok (.iconst 0, 1) := by decide +kernel
theorem dX4_opensAsTold_32 : decode cX4_opensAsTold 32 = .ok (.ireturn, 1) := by decide +kernel
theorem dX4_opensAsTold_33 : decode cX4_opensAsTold 33 = .ok (.aload_n 0, 1) := by decide +kernel
theorem dX4_opensAsTold_34 : decode cX4_opensAsTold 34 = .ok (.getfield 12, 3) := by decide +kernel
theorem dX4_opensAsTold_37 : decode cX4_opensAsTold 37 = .ok (.invokevirtual 44, 3) := by decide +kernel
theorem dX4_opensAsTold_40 : decode cX4_opensAsTold 40 = .ok (.pop, 1) := by decide +kernel
theorem dX4_opensAsTold_41 : decode cX4_opensAsTold 41 = .ok (.iinc 2 1, 3) := by decide +kernel
theorem dX4_opensAsTold_44 : decode cX4_opensAsTold 44 = .ok (.goto (-36), 3) := by decide +kernel
theorem dX4_opensAsTold_47 : decode cX4_opensAsTold 47 = .ok (.iconst 1, 1) := by decide +kernel
theorem dX4_opensAsTold_48 : decode cX4_opensAsTold 48 = .ok (.ireturn, 1) := by decide +kernel
theorem dX4_fittingKinds_0 : decode cX4_fittingKinds 0 = .ok (.iconst 0, 1) := by decide +kernel
theorem dX4_fittingKinds_1 : decode cX4_fittingKinds 1 = .ok (.istore 4, 2) := by decide +kernel
theorem dX4_fittingKinds_3 : decode cX4_fittingKinds 3 = .ok (.iconst 0, 1) := by decide +kernel
theorem dX4_fittingKinds_4 : decode cX4_fittingKinds 4 = .ok (.istore 5, 2) := by decide +kernel
theorem dX4_fittingKinds_6 : decode cX4_fittingKinds 6 = .ok (.iload 5, 2) := by decide +kernel
theorem dX4_fittingKinds_8 : decode cX4_fittingKinds 8 = .ok (.bipush 6, 2) := by decide +kernel
theorem dX4_fittingKinds_10 : decode cX4_fittingKinds 10 = .ok (.if_icmp .ge 49, 3) := by decide +kernel
theorem dX4_fittingKinds_13 : decode cX4_fittingKinds 13 = .ok (.aload_n 0, 1) := by decide +kernel
theorem dX4_fittingKinds_14 : decode cX4_fittingKinds 14 = .ok (.getfield 12, 3) := by decide +kernel
theorem dX4_fittingKinds_17 : decode cX4_fittingKinds 17 = .ok (.aload_n 0, 1) := by decide +kernel
theorem dX4_fittingKinds_18 : decode cX4_fittingKinds 18 = .ok (.getfield 18, 3) := by decide +kernel
theorem dX4_fittingKinds_21 : decode cX4_fittingKinds 21 = .ok (.invokevirtual 21, 3) := by decide +kernel
theorem dX4_fittingKinds_24 : decode cX4_fittingKinds 24 = .ok (.aload_n 0, 1) := by decide +kernel
theorem dX4_fittingKinds_25 : decode cX4_fittingKinds 25 = .ok (.getfield 12, 3) := by decide +kernel
theorem dX4_fittingKinds_28 : decode cX4_fittingKinds 28 = .ok (.iload_n 1, 1) := by decide +kernel
theorem dX4_fittingKinds_29 : decode cX4_fittingKinds 29 = .ok (.iload 5, 2) := by decide +kernel
theorem dX4_fittingKinds_31 : decode cX4_fittingKinds 31 = .ok (.invokevirtual 106, 3) := by decide +kernel
theorem dX4_fittingKinds_34 : decode cX4_fittingKinds 34 = .ok (.aload_n 0, 1) := by decide +kernel
theorem dX4_fittingKinds_35 : decode cX4_fittingKinds 35 = .ok (.iload_n 1, 1) := by decide +kernel
theorem dX4_fittingKinds_36 : decode cX4_fittingKinds 36 = .ok (.iload_n 2, 1) := by decide +kernel
theorem dX4_fittingKinds_37 : decode cX4_fittingKinds 37 = .ok (.aload_n 3, 1) := by decide +kernel
theorem dX4_fittingKinds_38 : decode cX4_fittingKinds 38 = .ok (.invokevirtual 109, 3) := by decide +kernel
theorem dX4_fittingKinds_41 : decode cX4_fittingKinds 41 = .ok (.ifCond .eq 12, 3) := by decide +kernel
theorem dX4_fittingKinds_44 : decode cX4_fittingKinds 44 = .ok (.iload 4, 2) := by decide +kernel
theorem dX4_fittingKinds_46 : decode cX4_fittingKinds 46 = .ok (.iconst 1, 1) := by decide +kernel
theorem dX4_fittingKinds_47 : decode cX4_fittingKinds 47 = .ok (.iload 5, 2) := by decide +kernel
theorem dX4_fittingKinds_49 : decode cX4_fittingKinds 49 = .ok (.ishl, 1) := by decide +kernel
theorem dX4_fittingKinds_50 : decode cX4_fittingKinds 50 = .ok (.ior, 1) := by decide +kernel
theorem dX4_fittingKinds_51 : decode cX4_fittingKinds 51 = .ok (.istore 4, 2) := by decide +kernel
theorem dX4_fittingKinds_53 : decode cX4_fittingKinds 53 = .ok (.iinc 5 1, 3) := by decide +kernel
theorem dX4_fittingKinds_56 : decode cX4_fittingKinds 56 = .ok (.goto (-50), 3) := by decide +kernel
theorem dX4_fittingKinds_59 : decode cX4_fittingKinds 59 = .ok (.iload 4, 2) := by decide +kernel
theorem dX4_fittingKinds_61 : decode cX4_fittingKinds 61 = .ok (.ireturn, 1) := by decide +kernel
theorem dX4_fittingFigures_0 : decode cX4_fittingFigures 0 = .ok (.iconst 0, 1) := by decide +kernel
theorem dX4_fittingFigures_1 : decode cX4_fittingFigures 1 = .ok (.istore 4, 2) := by decide +kernel
theorem dX4_fittingFigures_3 : decode cX4_fittingFigures 3 = .ok (.iconst 0, 1) := by decide +kernel
theorem dX4_fittingFigures_4 : decode cX4_fittingFigures 4 = .ok (.istore 5, 2) := by decide +kernel
theorem dX4_fittingFigures_6 : decode cX4_fittingFigures 6 = .ok (.iload 5, 2) := by decide +kernel
theorem dX4_fittingFigures_8 : decode cX4_fittingFigures 8 = .ok (.bipush 9, 2) := by decide +kernel
theorem dX4_fittingFigures_10 : decode cX4_fittingFigures 10 = .ok (.if_icmp .gt 49, 3) := by decide +kernel
theorem dX4_fittingFigures_13 : decode cX4_fittingFigures 13 = .ok (.aload_n 0, 1) := by decide +kernel
theorem dX4_fittingFigures_14 : decode cX4_fittingFigures 14 = .ok (.getfield 12, 3) := by decide +kernel
theorem dX4_fittingFigures_17 : decode cX4_fittingFigures 17 = .ok (.aload_n 0, 1) := by decide +kernel
theorem dX4_fittingFigures_18 : decode cX4_fittingFigures 18 = .ok (.getfield 18, 3) := by decide +kernel
theorem dX4_fittingFigures_21 : decode cX4_fittingFigures 21 = .ok (.invokevirtual 21, 3) := by decide +kernel
theorem dX4_fittingFigures_24 : decode cX4_fittingFigures 24 = .ok (.aload_n 0, 1) := by decide +kernel
theorem dX4_fittingFigures_25 : decode cX4_fittingFigures 25 = .ok (.getfield 12, 3) := by decide +kernel
theorem dX4_fittingFigures_28 : decode cX4_fittingFigures 28 = .ok (.iload_n 1, 1) := by decide +kernel
theorem dX4_fittingFigures_29 : decode cX4_fittingFigures 29 = .ok (.iload 5, 2) := by decide +kernel
theorem dX4_fittingFigures_31 : decode cX4_fittingFigures 31 = .ok (.invokevirtual 113, 3) := by decide +kernel
theorem dX4_fittingFigures_34 : decode cX4_fittingFigures 34 = .ok (.aload_n 0, 1) := by decide +kernel
theorem dX4_fittingFigures_35 : decode cX4_fittingFigures 35 = .ok (.iload_n 1, 1) := by decide +kernel
theorem dX4_fittingFigures_36 : decode cX4_fittingFigures 36 = .ok (.iload_n 2, 1) := by decide +kernel
theorem dX4_fittingFigures_37 : decode cX4_fittingFigures 37 = .ok (.aload_n 3, 1) := by decide +kernel
theorem dX4_fittingFigures_38 : decode cX4_fittingFigures 38 = .ok (.invokevirtual 109, 3) := by decide +kernel
theorem dX4_fittingFigures_41 : decode cX4_fittingFigures 41 = .ok (.ifCond .eq 12, 3) := by decide +kernel
theorem dX4_fittingFigures_44 : decode cX4_fittingFigures 44 = .ok (.iload 4, 2) := by decide +kernel
theorem dX4_fittingFigures_46 : decode cX4_fittingFigures 46 = .ok (.iconst 1, 1) := by decide +kernel
theorem dX4_fittingFigures_47 : decode cX4_fittingFigures 47 = .ok (.iload 5, 2) := by decide +kernel
theorem dX4_fittingFigures_49 : decode cX4_fittingFigures 49 = .ok (.ishl, 1) := by decide +kernel
theorem dX4_fittingFigures_50 : decode cX4_fittingFigures 50 = .ok (.ior, 1) := by decide +kernel
theorem dX4_fittingFigures_51 : decode cX4_fittingFigures 51 = .ok (.istore 4, 2) := by decide +kernel
theorem dX4_fittingFigures_53 : decode cX4_fittingFigures 53 = .ok (.iinc 5 1, 3) := by decide +kernel
theorem dX4_fittingFigures_56 : decode cX4_fittingFigures 56 = .ok (.goto (-50), 3) := by decide +kernel
theorem dX4_fittingFigures_59 : decode cX4_fittingFigures 59 = .ok (.iload 4, 2) := by decide +kernel
theorem dX4_fittingFigures_61 : decode cX4_fittingFigures 61 = .ok (.ireturn, 1) := by decide +kernel
theorem dX4_hatesAsTold_0 : decode cX4_hatesAsTold 0 = .ok (.aload_n 3, 1) := by decide +kernel
theorem dX4_hatesAsTold_1 : decode cX4_hatesAsTold 1 = .ok (.ifnonnull 5, 3) := by decide +kernel
theorem dX4_hatesAsTold_4 : decode cX4_hatesAsTold 4 = .ok (.iconst 0, 1) := by decide +kernel
theorem dX4_hatesAsTold_5 : decode cX4_hatesAsTold 5 = .ok (.ireturn, 1) := by decide +kernel
theorem dX4_hatesAsTold_6 : decode cX4_hatesAsTold 6 = .ok (.iconst 0, 1) := by decide +kernel
theorem dX4_hatesAsTold_7 : decode cX4_hatesAsTold 7 = .ok (.istore 4, 2) := by decide +kernel
theorem dX4_hatesAsTold_9 : decode cX4_hatesAsTold 9 = .ok (.iload 4, 2) := by decide +kernel
theorem dX4_hatesAsTold_11 : decode cX4_hatesAsTold 11 = .ok (.aload_n 3, 1) := by decide +kernel
theorem dX4_hatesAsTold_12 : decode cX4_hatesAsTold 12 = .ok (.invokevirtual 95, 3) := by decide +kernel
theorem dX4_hatesAsTold_15 : decode cX4_hatesAsTold 15 = .ok (.if_icmp .ge 37, 3) := by decide +kernel
theorem dX4_hatesAsTold_18 : decode cX4_hatesAsTold 18 = .ok (.aload_n 0, 1) := by decide +kernel
theorem dX4_hatesAsTold_19 : decode cX4_hatesAsTold 19 = .ok (.getfield 12, 3) := by decide +kernel
theorem dX4_hatesAsTold_22 : decode cX4_hatesAsTold 22 = .ok (.iload_n 1, 1) := by decide +kernel
theorem dX4_hatesAsTold_23 : decode cX4_hatesAsTold 23 = .ok (.iload_n 2, 1) := by decide +kernel
theorem dX4_hatesAsTold_24 : decode cX4_hatesAsTold 24 = .ok (.invokevirtual 29, 3) := by decide +kernel
theorem dX4_hatesAsTold_27 : decode cX4_hatesAsTold 27 = .ok (.aload_n 3, 1) := by decide +kernel
theorem dX4_hatesAsTold_28 : decode cX4_hatesAsTold 28 = .ok (.iload 4, 2) := by decide +kernel
theorem dX4_hatesAsTold_30 : decode cX4_hatesAsTold 30 = .ok (.invokevirtual 103, 3) := by decide +kernel
theorem dX4_hatesAsTold_33 : decode cX4_hatesAsTold 33 = .ok (.if_icmp .eq 5, 3) := by decide +kernel
theorem dX4_hatesAsTold_36 : decode cX4_hatesAsTold 36 = .ok (.iconst 0, 1) := by decide +kernel
theorem dX4_hatesAsTold_37 : decode cX4_hatesAsTold 37 = .ok (.ireturn, 1) := by decide +kernel
theorem dX4_hatesAsTold_38 : decode cX4_hatesAsTold 38 = .ok (.aload_n 0, 1) := by decide +kernel
theorem dX4_hatesAsTold_39 : decode cX4_hatesAsTold 39 = .ok (.getfield 12, 3) := by decide +kernel
theorem dX4_hatesAsTold_42 : decode cX4_hatesAsTold 42 = .ok (.invokevirtual 44, 3) := by decide +kernel
theorem dX4_hatesAsTold_45 : decode cX4_hatesAsTold 45 = .ok (.pop, 1) := by decide +kernel
theorem dX4_hatesAsTold_46 : decode cX4_hatesAsTold 46 = .ok (.iinc 4 1, 3) := by decide +kernel
theorem dX4_hatesAsTold_49 : decode cX4_hatesAsTold 49 = .ok (.goto (-40), 3) := by decide +kernel
theorem dX4_hatesAsTold_52 : decode cX4_hatesAsTold 52 = .ok (.iconst 1, 1) := by decide +kernel
theorem dX4_hatesAsTold_53 : decode cX4_hatesAsTold 53 = .ok (.ireturn, 1) := by decide +kernel
theorem dX4_settled_0 : decode cX4_settled 0 = .ok (.aload_n 0, 1) := by decide +kernel
theorem dX4_settled_1 : decode cX4_settled 1 = .ok (.iload_n 1, 1) := by decide +kernel
theorem dX4_settled_2 : decode cX4_settled 2 = .ok (.iload_n 2, 1) := by decide +kernel
theorem dX4_settled_3 : decode cX4_settled 3 = .ok (.iconst 4, 1) := by decide +kernel
theorem dX4_settled_4 : decode cX4_settled 4 = .ok (.invokevirtual 116, 3) := by decide +kernel
theorem dX4_settled_7 : decode cX4_settled 7 = .ok (.istore_n 3, 1) := by decide +kernel
theorem dX4_settled_8 : decode cX4_settled 8 = .ok (.aload_n 0, 1) := by decide +kernel
theorem dX4_settled_9 : decode cX4_settled 9 = .ok (.iload_n 1, 1) := by decide +kernel
theorem dX4_settled_10 : decode cX4_settled 10 = .ok (.iload_n 2, 1) := by decide +kernel
theorem dX4_settled_11 : decode cX4_settled 11 = .ok (.invokevirtual 120, 3) := by decide +kernel
theorem dX4_settled_14 : decode cX4_settled 14 = .ok (.istore 4, 2) := by decide +kernel
theorem dX4_settled_16 : decode cX4_settled 16 = .ok (.iconst 0, 1) := by decide +kernel
theorem dX4_settled_17 : decode cX4_settled 17 = .ok (.istore 5, 2) := by decide +kernel
theorem dX4_settled_19 : decode cX4_settled 19 = .ok (.iload 5, 2) := by decide +kernel
theorem dX4_settled_21 : decode cX4_settled 21 = .ok (.iconst 4, 1) := by decide +kernel
theorem dX4_settled_22 : decode cX4_settled 22 = .ok (.if_icmp .ge 112, 3) := by decide +kernel
theorem dX4_settled_25 : decode cX4_settled 25 = .ok (.iload 5, 2) := by decide +kernel
theorem dX4_settled_27 : decode cX4_settled 27 = .ok (.iconst 2, 1) := by decide +kernel
theorem dX4_settled_28 : decode cX4_settled 28 = .ok (.idiv, 1) := by decide +kernel
theorem dX4_settled_29 : decode cX4_settled 29 = .ok (.istore 6, 2) := by decide +kernel
theorem dX4_settled_31 : decode cX4_settled 31 = .ok (.iload 5, 2) := by decide +kernel
theorem dX4_settled_33 : decode cX4_settled 33 = .ok (.iconst 2, 1) := by decide +kernel
theorem dX4_settled_34 : decode cX4_settled 34 = .ok (.irem, 1) := by decide +kernel
theorem dX4_settled_35 : decode cX4_settled 35 = .ok (.istore 7, 2) := by decide +kernel
theorem dX4_settled_37 : decode cX4_settled 37 = .ok (.aload_n 0, 1) := by decide +kernel
theorem dX4_settled_38 : decode cX4_settled 38 = .ok (.iload_n 1, 1) := by decide +kernel
theorem dX4_settled_39 : decode cX4_settled 39 = .ok (.iload 6, 2) := by decide +kernel
theorem dX4_settled_41 : decode cX4_settled 41 = .ok (.iload 7, 2) := by decide +kernel
theorem dX4_settled_43 : decode cX4_settled 43 = .ok (.iload_n 3, 1) := by decide +kernel
theorem dX4_settled_44 : decode cX4_settled 44 = .ok (.iload 4, 2) := by decide +kernel
theorem dX4_settled_46 : decode cX4_settled 46 = .ok (.invokevirtual 123, 3) := by decide +kernel
theorem dX4_settled_49 : decode cX4_settled 49 = .ok (.aload_n 0, 1) := by decide +kernel
theorem dX4_settled_50 : decode cX4_settled 50 = .ok (.iload_n 1, 1) := by decide +kernel
theorem dX4_settled_51 : decode cX4_settled 51 = .ok (.iconst 1, 1) := by decide +kernel
theorem dX4_settled_52 : decode cX4_settled 52 = .ok (.iload 6, 2) := by decide +kernel
theorem dX4_settled_54 : decode cX4_settled 54 = .ok (.isub, 1) := by decide +kernel
theorem dX4_settled_55 : decode cX4_settled 55 = .ok (.iload 7, 2) := by decide +kernel
theorem dX4_settled_57 : decode cX4_settled 57 = .ok (.iload_n 3, 1) := by decide +kernel
theorem dX4_settled_58 : decode cX4_settled 58 = .ok (.iload 4, 2) := by decide +kernel
theorem dX4_settled_60 : decode cX4_settled 60 = .ok (.invokevirtual 123, 3) := by decide +kernel
theorem dX4_settled_63 : decode cX4_settled 63 = .ok (.if_icmp .lt 7, 3) := by decide +kernel
theorem dX4_settled_66 : decode cX4_settled 66 = .ok (.iconst 1, 1) := by decide +kernel
theorem dX4_settled_67 : decode cX4_settled 67 = .ok (.goto 4, 3) := by decide +kernel
theorem dX4_settled_70 : decode cX4_settled 70 = .ok (.iconst 0, 1) := by decide +kernel
theorem dX4_settled_71 : decode cX4_settled 71 = .ok (.istore 8, 2) := by decide +kernel
theorem dX4_settled_73 : decode cX4_settled 73 = .ok (.aload_n 0, 1) := by decide +kernel
theorem dX4_settled_74 : decode cX4_settled 74 = .ok (.iload_n 2, 1) := by decide +kernel
theorem dX4_settled_75 : decode cX4_settled 75 = .ok (.iload 7, 2) := by decide +kernel
theorem dX4_settled_77 : decode cX4_settled 77 = .ok (.iload 6, 2) := by decide +kernel
theorem dX4_settled_79 : decode cX4_settled 79 = .ok (.iload_n 3, 1) := by decide +kernel
theorem dX4_settled_80 : decode cX4_settled 80 = .ok (.iload 4, 2) := by decide +kernel
theorem dX4_settled_82 : decode cX4_settled 82 = .ok (.invokevirtual 123, 3) := by decide +kernel
theorem dX4_settled_85 : decode cX4_settled 85 = .ok (.aload_n 0, 1) := by decide +kernel
theorem dX4_settled_86 : decode cX4_settled 86 = .ok (.iload_n 2, 1) := by decide +kernel
theorem dX4_settled_87 : decode cX4_settled 87 = .ok (.iconst 1, 1) := by decide +kernel
theorem dX4_settled_88 : decode cX4_settled 88 = .ok (.iload 7, 2) := by decide +kernel
theorem dX4_settled_90 : decode cX4_settled 90 = .ok (.isub, 1) := by decide +kernel
theorem dX4_settled_91 : decode cX4_settled 91 = .ok (.iload 6, 2) := by decide +kernel
theorem dX4_settled_93 : decode cX4_settled 93 = .ok (.iload_n 3, 1) := by decide +kernel
theorem dX4_settled_94 : decode cX4_settled 94 = .ok (.iload 4, 2) := by decide +kernel
theorem dX4_settled_96 : decode cX4_settled 96 = .ok (.invokevirtual 123, 3) := by decide +kernel
theorem dX4_settled_99 : decode cX4_settled 99 = .ok (.if_icmp .lt 7, 3) := by decide +kernel
theorem dX4_settled_102 : decode cX4_settled 102 = .ok (.iconst 1, 1) := by decide +kernel
theorem dX4_settled_103 : decode cX4_settled 103 = .ok (.goto 4, 3) := by decide +kernel
theorem dX4_settled_106 : decode cX4_settled 106 = .ok (.iconst 0, 1) := by decide +kernel
theorem dX4_settled_107 : decode cX4_settled 107 = .ok (.istore 9, 2) := by decide +kernel
theorem dX4_settled_109 : decode cX4_settled 109 = .ok (.iload 8, 2) := by decide +kernel
theorem dX4_settled_111 : decode cX4_settled 111 = .ok (.ifCond .eq 17, 3) := by decide +kernel
theorem dX4_settled_114 : decode cX4_settled 114 = .ok (.iload 9, 2) := by decide +kernel
theorem dX4_settled_116 : decode cX4_settled 116 = .ok (.ifCond .eq 12, 3) := by decide +kernel
theorem dX4_settled_119 : decode cX4_settled 119 = .ok (.bipush 10, 2) := by decide +kernel
theorem dX4_settled_121 : decode cX4_settled 121 = .ok (.iload 6, 2) := by decide +kernel
theorem dX4_settled_123 : decode cX4_settled 123 = .ok (.imul, 1) := by decide +kernel
theorem dX4_settled_124 : decode cX4_settled 124 = .ok (.iload 7, 2) := by decide +kernel
theorem dX4_settled_126 : decode cX4_settled 126 = .ok (.iadd, 1) := by decide +kernel
theorem dX4_settled_127 : decode cX4_settled 127 = .ok (.ireturn, 1) := by decide +kernel
theorem dX4_settled_128 : decode cX4_settled 128 = .ok (.iinc 5 1, 3) := by decide +kernel
theorem dX4_settled_131 : decode cX4_settled 131 = .ok (.goto (-112), 3) := by decide +kernel
theorem dX4_settled_134 : decode cX4_settled 134 = .ok (.bipush (-9), 2) := by decide +kernel
theorem dX4_settled_136 : decode cX4_settled 136 = .ok (.ireturn, 1) := by decide +kernel
theorem dX4_hateMadeUp_0 : decode cX4_hateMadeUp 0 = .ok (.aload_n 0, 1) := by decide +kernel
theorem dX4_hateMadeUp_1 : decode cX4_hateMadeUp 1 = .ok (.getfield 12, 3) := by decide +kernel
theorem dX4_hateMadeUp_4 : decode cX4_hateMadeUp 4 = .ok (.aload_n 0, 1) := by decide +kernel
theorem dX4_hateMadeUp_5 : decode cX4_hateMadeUp 5 = .ok (.getfield 18, 3) := by decide +kernel
theorem dX4_hateMadeUp_8 : decode cX4_hateMadeUp 8 = .ok (.invokevirtual 21, 3) := by decide +kernel
theorem dX4_hateMadeUp_11 : decode cX4_hateMadeUp 11 = .ok (.aload_n 0, 1) := by decide +kernel
theorem dX4_hateMadeUp_12 : decode cX4_hateMadeUp 12 = .ok (.getfield 12, 3) := by decide +kernel
theorem dX4_hateMadeUp_15 : decode cX4_hateMadeUp 15 = .ok (.iload_n 1, 1) := by decide +kernel
theorem dX4_hateMadeUp_16 : decode cX4_hateMadeUp 16 = .ok (.iload_n 2, 1) := by decide +kernel
theorem dX4_hateMadeUp_17 : decode cX4_hateMadeUp 17 = .ok (.aload_n 0, 1) := by decide +kernel
theorem dX4_hateMadeUp_18 : decode cX4_hateMadeUp 18 = .ok (.getfield 18, 3) := by decide +kernel
theorem dX4_hateMadeUp_21 : decode cX4_hateMadeUp 21 = .ok (.iload_n 1, 1) := by decide +kernel
theorem dX4_hateMadeUp_22 : decode cX4_hateMadeUp 22 = .ok (.iload_n 2, 1) := by decide +kernel
theorem dX4_hateMadeUp_23 : decode cX4_hateMadeUp 23 = .ok (.invokevirtual 29, 3) := by decide +kernel
theorem dX4_hateMadeUp_26 : decode cX4_hateMadeUp 26 = .ok (.iconst 2, 1) := by decide +kernel
theorem dX4_hateMadeUp_27 : decode cX4_hateMadeUp 27 = .ok (.idiv, 1) := by decide +kernel
theorem dX4_hateMadeUp_28 : decode cX4_hateMadeUp 28 = .ok (.invokevirtual 59, 3) := by decide +kernel
theorem dX4_hateMadeUp_31 : decode cX4_hateMadeUp 31 = .ok (.aload_n 0, 1) := by decide +kernel
theorem dX4_hateMadeUp_32 : decode cX4_hateMadeUp 32 = .ok (.getfield 12, 3) := by decide +kernel
theorem dX4_hateMadeUp_35 : decode cX4_hateMadeUp 35 = .ok (.iconst 4, 1) := by decide +kernel
theorem dX4_hateMadeUp_36 : decode cX4_hateMadeUp 36 = .ok (.invokevirtual 25, 3) := by decide +kernel
theorem dX4_hateMadeUp_39 : decode cX4_hateMadeUp 39 = .ok (.pop, 1) := by decide +kernel
theorem dX4_hateMadeUp_40 : decode cX4_hateMadeUp 40 = .ok (.aload_n 0, 1) := by decide +kernel
theorem dX4_hateMadeUp_41 : decode cX4_hateMadeUp 41 = .ok (.getfield 12, 3) := by decide +kernel
theorem dX4_hateMadeUp_44 : decode cX4_hateMadeUp 44 = .ok (.iload_n 1, 1) := by decide +kernel
theorem dX4_hateMadeUp_45 : decode cX4_hateMadeUp 45 = .ok (.iload_n 2, 1) := by decide +kernel
theorem dX4_hateMadeUp_46 : decode cX4_hateMadeUp 46 = .ok (.invokevirtual 29, 3) := by decide +kernel
theorem dX4_hateMadeUp_49 : decode cX4_hateMadeUp 49 = .ok (.ireturn, 1) := by decide +kernel
theorem dX4_gain_0 : decode cX4_gain 0 = .ok (.iload_n 2, 1) := by decide +kernel
theorem dX4_gain_1 : decode cX4_gain 1 = .ok (.iconst 1, 1) := by decide +kernel
theorem dX4_gain_2 : decode cX4_gain 2 = .ok (.if_icmp .ne 13, 3) := by decide +kernel
theorem dX4_gain_5 : decode cX4_gain 5 = .ok (.iload_n 3, 1) := by decide +kernel
theorem dX4_gain_6 : decode cX4_gain 6 = .ok (.iconst 1, 1) := by decide +kernel
theorem dX4_gain_7 : decode cX4_gain 7 = .ok (.if_icmp .ne 8, 3) := by decide +kernel
theorem dX4_gain_10 : decode cX4_gain 10 = .ok (.iload 5, 2) := by decide +kernel
theorem dX4_gain_12 : decode cX4_gain 12 = .ok (.goto 5, 3) := by decide +kernel
theorem dX4_gain_15 : decode cX4_gain 15 = .ok (.iload 4, 2) := by decide +kernel
theorem dX4_gain_17 : decode cX4_gain 17 = .ok (.istore 6, 2) := by decide +kernel
theorem dX4_gain_19 : decode cX4_gain 19 = .ok (.iload_n 2, 1) := by decide +kernel
theorem dX4_gain_20 : decode cX4_gain 20 = .ok (.iconst 1, 1) := by decide +kernel
theorem dX4_gain_21 : decode cX4_gain 21 = .ok (.if_icmp .ne 11, 3) := by decide +kernel
theorem dX4_gain_24 : decode cX4_gain 24 = .ok (.iload_n 3, 1) := by decide +kernel
theorem dX4_gain_25 : decode cX4_gain 25 = .ok (.ifCond .ne 7, 3) := by decide +kernel
theorem dX4_gain_28 : decode cX4_gain 28 = .ok (.iconst 3, 1) := by decide +kernel
theorem dX4_gain_29 : decode cX4_gain 29 = .ok (.goto 4, 3) := by decide +kernel
theorem dX4_gain_32 : decode cX4_gain 32 = .ok (.iconst 0, 1) := by decide +kernel
theorem dX4_gain_33 : decode cX4_gain 33 = .ok (.istore 7, 2) := by decide +kernel
theorem dX4_gain_35 : decode cX4_gain 35 = .ok (.iconst 4, 1) := by decide +kernel
theorem dX4_gain_36 : decode cX4_gain 36 = .ok (.aload_n 0, 1) := by decide +kernel
theorem dX4_gain_37 : decode cX4_gain 37 = .ok (.getfield 18, 3) := by decide +kernel
theorem dX4_gain_40 : decode cX4_gain 40 = .ok (.iload_n 1, 1) := by decide +kernel
theorem dX4_gain_41 : decode cX4_gain 41 = .ok (.invokevirtual 126, 3) := by decide +kernel
theorem dX4_gain_44 : decode cX4_gain 44 = .ok (.imul, 1) := by decide +kernel
theorem dX4_gain_45 : decode cX4_gain 45 = .ok (.iload 6, 2) := by decide +kernel
theorem dX4_gain_47 : decode cX4_gain 47 = .ok (.iconst 2, 1) := by decide +kernel
theorem dX4_gain_48 : decode cX4_gain 48 = .ok (.idiv, 1) := by decide +kernel
theorem dX4_gain_49 : decode cX4_gain 49 = .ok (.isub, 1) := by decide +kernel
theorem dX4_gain_50 : decode cX4_gain 50 = .ok (.iload 7, 2) := by decide +kernel
theorem dX4_gain_52 : decode cX4_gain 52 = .ok (.isub, 1) := by decide +kernel
theorem dX4_gain_53 : decode cX4_gain 53 = .ok (.ireturn, 1) := by decide +kernel
theorem dX4_meetingWays_0 : decode cX4_meetingWays 0 = .ok (.lconst 0, 1) := by decide +kernel
theorem dX4_meetingWays_1 : decode cX4_meetingWays 1 = .ok (.lstore 6, 2) := by decide +kernel
theorem dX4_meetingWays_3 : decode cX4_meetingWays 3 = .ok (.iconst 0, 1) := by decide +kernel
theorem dX4_meetingWays_4 : decode cX4_meetingWays 4 = .ok (.istore 8, 2) := by decide +kernel
theorem dX4_meetingWays_6 : decode cX4_meetingWays 6 = .ok (.iload 8, 2) := by decide +kernel
theorem dX4_meetingWays_8 : decode cX4_meetingWays 8 = .ok (.iconst 1, 1) := by decide +kernel
theorem dX4_meetingWays_9 : decode cX4_meetingWays 9 = .ok (.iload 4, 2) := by decide +kernel
theorem dX4_meetingWays_11 : decode cX4_meetingWays 11 = .ok (.ishl, 1) := by decide +kernel
theorem dX4_meetingWays_12 : decode cX4_meetingWays 12 = .ok (.if_icmp .ge 107, 3) := by decide +kernel
theorem dX4_meetingWays_15 : decode cX4_meetingWays 15 = .ok (.aload_n 0, 1) := by decide +kernel
