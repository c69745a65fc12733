theorem dX4_meetingWays_16 : decode cX4_meetingWays 16 = .ok (.getfield 12, 3) := by decide +kernel
theorem dX4_meetingWays_19 : decode cX4_meetingWays 19 = .ok (.aload_n 0, 1) := by decide +kernel
theorem dX4_meetingWays_20 : decode cX4_meetingWays 20 = .ok (.getfield 18, 3) := by decide +kernel
theorem dX4_meetingWays_23 : decode cX4_meetingWays 23 = .ok (.invokevirtual 21, 3) := by decide +kernel
theorem dX4_meetingWays_26 : decode cX4_meetingWays 26 = .ok (.iconst 0, 1) := by decide +kernel
theorem dX4_meetingWays_27 : decode cX4_meetingWays 27 = .ok (.istore 9, 2) := by decide +kernel
theorem dX4_meetingWays_29 : decode cX4_meetingWays 29 = .ok (.iload 9, 2) := by decide +kernel
theorem dX4_meetingWays_31 : decode cX4_meetingWays 31 = .ok (.iload 4, 2) := by decide +kernel
theorem dX4_meetingWays_33 : decode cX4_meetingWays 33 = .ok (.if_icmp .ge 49, 3) := by decide +kernel
theorem dX4_meetingWays_36 : decode cX4_meetingWays 36 = .ok (.iload 8, 2) := by decide +kernel
theorem dX4_meetingWays_38 : decode cX4_meetingWays 38 = .ok (.iload 9, 2) := by decide +kernel
theorem dX4_meetingWays_40 : decode cX4_meetingWays 40 = .ok (.invokestatic 56, 3) := by decide +kernel
theorem dX4_meetingWays_43 : decode cX4_meetingWays 43 = .ok (.iconst 1, 1) := by decide +kernel
theorem dX4_meetingWays_44 : decode cX4_meetingWays 44 = .ok (.if_icmp .ne 24, 3) := by decide +kernel
theorem dX4_meetingWays_47 : decode cX4_meetingWays 47 = .ok (.aload_n 0, 1) := by decide +kernel
theorem dX4_meetingWays_48 : decode cX4_meetingWays 48 = .ok (.getfield 12, 3) := by decide +kernel
theorem dX4_meetingWays_51 : decode cX4_meetingWays 51 = .ok (.iload_n 1, 1) := by decide +kernel
theorem dX4_meetingWays_52 : decode cX4_meetingWays 52 = .ok (.iload_n 2, 1) := by decide +kernel
theorem dX4_meetingWays_53 : decode cX4_meetingWays 53 = .ok (.aload_n 0, 1) := by decide +kernel
theorem dX4_meetingWays_54 : decode cX4_meetingWays 54 = .ok (.getfield 12, 3) := by decide +kernel
theorem dX4_meetingWays_57 : decode cX4_meetingWays 57 = .ok (.iload_n 1, 1) := by decide +kernel
theorem dX4_meetingWays_58 : decode cX4_meetingWays 58 = .ok (.iload_n 2, 1) := by decide +kernel
theorem dX4_meetingWays_59 : decode cX4_meetingWays 59 = .ok (.invokevirtual 29, 3) := by decide +kernel
theorem dX4_meetingWays_62 : decode cX4_meetingWays 62 = .ok (.bipush 10, 2) := by decide +kernel
theorem dX4_meetingWays_64 : decode cX4_meetingWays 64 = .ok (.isub, 1) := by decide +kernel
theorem dX4_meetingWays_65 : decode cX4_meetingWays 65 = .ok (.invokevirtual 59, 3) := by decide +kernel
theorem dX4_meetingWays_68 : decode cX4_meetingWays 68 = .ok (.aload_n 0, 1) := by decide +kernel
theorem dX4_meetingWays_69 : decode cX4_meetingWays 69 = .ok (.getfield 12, 3) := by decide +kernel
theorem dX4_meetingWays_72 : decode cX4_meetingWays 72 = .ok (.invokevirtual 44, 3) := by decide +kernel
theorem dX4_meetingWays_75 : decode cX4_meetingWays 75 = .ok (.pop, 1) := by decide +kernel
theorem dX4_meetingWays_76 : decode cX4_meetingWays 76 = .ok (.iinc 9 1, 3) := by decide +kernel
theorem dX4_meetingWays_79 : decode cX4_meetingWays 79 = .ok (.goto (-50), 3) := by decide +kernel
theorem dX4_meetingWays_82 : decode cX4_meetingWays 82 = .ok (.aload_n 0, 1) := by decide +kernel
theorem dX4_meetingWays_83 : decode cX4_meetingWays 83 = .ok (.getfield 12, 3) := by decide +kernel
theorem dX4_meetingWays_86 : decode cX4_meetingWays 86 = .ok (.iload_n 3, 1) := by decide +kernel
theorem dX4_meetingWays_87 : decode cX4_meetingWays 87 = .ok (.invokevirtual 40, 3) := by decide +kernel
theorem dX4_meetingWays_90 : decode cX4_meetingWays 90 = .ok (.ifCond .eq 23, 3) := by decide +kernel
theorem dX4_meetingWays_93 : decode cX4_meetingWays 93 = .ok (.lload 6, 2) := by decide +kernel
theorem dX4_meetingWays_95 : decode cX4_meetingWays 95 = .ok (.iload 5, 2) := by decide +kernel
theorem dX4_meetingWays_97 : decode cX4_meetingWays 97 = .ok (.iconst 1, 1) := by decide +kernel
theorem dX4_meetingWays_98 : decode cX4_meetingWays 98 = .ok (.isub, 1) := by decide +kernel
theorem dX4_meetingWays_99 : decode cX4_meetingWays 99 = .ok (.iload 4, 2) := by decide +kernel
theorem dX4_meetingWays_101 : decode cX4_meetingWays 101 = .ok (.iload 8, 2) := by decide +kernel
theorem dX4_meetingWays_103 : decode cX4_meetingWays 103 = .ok (.invokestatic 83, 3) := by decide +kernel
theorem dX4_meetingWays_106 : decode cX4_meetingWays 106 = .ok (.isub, 1) := by decide +kernel
theorem dX4_meetingWays_107 : decode cX4_meetingWays 107 = .ok (.invokestatic 129, 3) := by decide +kernel
theorem dX4_meetingWays_110 : decode cX4_meetingWays 110 = .ok (.ladd, 1) := by decide +kernel
theorem dX4_meetingWays_111 : decode cX4_meetingWays 111 = .ok (.lstore 6, 2) := by decide +kernel
theorem dX4_meetingWays_113 : decode cX4_meetingWays 113 = .ok (.iinc 8 1, 3) := by decide +kernel
theorem dX4_meetingWays_116 : decode cX4_meetingWays 116 = .ok (.goto (-110), 3) := by decide +kernel
theorem dX4_meetingWays_119 : decode cX4_meetingWays 119 = .ok (.lload 6, 2) := by decide +kernel
theorem dX4_meetingWays_121 : decode cX4_meetingWays 121 = .ok (.lreturn, 1) := by decide +kernel
theorem dX4_byLot_0 : decode cX4_byLot 0 = .ok (.iload_n 2, 1) := by decide +kernel
theorem dX4_byLot_1 : decode cX4_byLot 1 = .ok (.istore 4, 2) := by decide +kernel
theorem dX4_byLot_3 : decode cX4_byLot 3 = .ok (.iconst 0, 1) := by decide +kernel
theorem dX4_byLot_4 : decode cX4_byLot 4 = .ok (.istore 5, 2) := by decide +kernel
theorem dX4_byLot_6 : decode cX4_byLot 6 = .ok (.iconst 0, 1) := by decide +kernel
theorem dX4_byLot_7 : decode cX4_byLot 7 = .ok (.istore 6, 2) := by decide +kernel
theorem dX4_byLot_9 : decode cX4_byLot 9 = .ok (.iconst 0, 1) := by decide +kernel
theorem dX4_byLot_10 : decode cX4_byLot 10 = .ok (.istore 7, 2) := by decide +kernel
theorem dX4_byLot_12 : decode cX4_byLot 12 = .ok (.iload 7, 2) := by decide +kernel
theorem dX4_byLot_14 : decode cX4_byLot 14 = .ok (.iload_n 1, 1) := by decide +kernel
theorem dX4_byLot_15 : decode cX4_byLot 15 = .ok (.if_icmp .ge 132, 3) := by decide +kernel
theorem dX4_byLot_18 : decode cX4_byLot 18 = .ok (.aload_n 0, 1) := by decide +kernel
theorem dX4_byLot_19 : decode cX4_byLot 19 = .ok (.getfield 12, 3) := by decide +kernel
theorem dX4_byLot_22 : decode cX4_byLot 22 = .ok (.aload_n 0, 1) := by decide +kernel
theorem dX4_byLot_23 : decode cX4_byLot 23 = .ok (.getfield 18, 3) := by decide +kernel
theorem dX4_byLot_26 : decode cX4_byLot 26 = .ok (.invokevirtual 21, 3) := by decide +kernel
theorem dX4_byLot_29 : decode cX4_byLot 29 = .ok (.iconst 0, 1) := by decide +kernel
theorem dX4_byLot_30 : decode cX4_byLot 30 = .ok (.istore 8, 2) := by decide +kernel
theorem dX4_byLot_32 : decode cX4_byLot 32 = .ok (.iload 8, 2) := by decide +kernel
theorem dX4_byLot_34 : decode cX4_byLot 34 = .ok (.aload_n 0, 1) := by decide +kernel
theorem dX4_byLot_35 : decode cX4_byLot 35 = .ok (.getfield 18, 3) := by decide +kernel
theorem dX4_byLot_38 : decode cX4_byLot 38 = .ok (.invokevirtual 69, 3) := by decide +kernel
theorem dX4_byLot_41 : decode cX4_byLot 41 = .ok (.if_icmp .ge 66, 3) := by decide +kernel
theorem dX4_byLot_44 : decode cX4_byLot 44 = .ok (.iload 8, 2) := by decide +kernel
theorem dX4_byLot_46 : decode cX4_byLot 46 = .ok (.iconst 1, 1) := by decide +kernel
theorem dX4_byLot_47 : decode cX4_byLot 47 = .ok (.iadd, 1) := by decide +kernel
theorem dX4_byLot_48 : decode cX4_byLot 48 = .ok (.istore 9, 2) := by decide +kernel
theorem dX4_byLot_50 : decode cX4_byLot 50 = .ok (.iload 9, 2) := by decide +kernel
theorem dX4_byLot_52 : decode cX4_byLot 52 = .ok (.aload_n 0, 1) := by decide +kernel
theorem dX4_byLot_53 : decode cX4_byLot 53 = .ok (.getfield 18, 3) := by decide +kernel
theorem dX4_byLot_56 : decode cX4_byLot 56 = .ok (.invokevirtual 69, 3) := by decide +kernel
theorem dX4_byLot_59 : decode cX4_byLot 59 = .ok (.if_icmp .ge 42, 3) := by decide +kernel
theorem dX4_byLot_62 : decode cX4_byLot 62 = .ok (.iload 4, 2) := by decide +kernel
theorem dX4_byLot_64 : decode cX4_byLot 64 = .ok (.ldc 135, 2) := by decide +kernel
theorem dX4_byLot_66 : decode cX4_byLot 66 = .ok (.imul, 1) := by decide +kernel
theorem dX4_byLot_67 : decode cX4_byLot 67 = .ok (.sipush 12345, 3) := by decide +kernel
theorem dX4_byLot_70 : decode cX4_byLot 70 = .ok (.iadd, 1) := by decide +kernel
theorem dX4_byLot_71 : decode cX4_byLot 71 = .ok (.istore 4, 2) := by decide +kernel
theorem dX4_byLot_73 : decode cX4_byLot 73 = .ok (.aload_n 0, 1) := by decide +kernel
theorem dX4_byLot_74 : decode cX4_byLot 74 = .ok (.getfield 12, 3) := by decide +kernel
theorem dX4_byLot_77 : decode cX4_byLot 77 = .ok (.iload 8, 2) := by decide +kernel
theorem dX4_byLot_79 : decode cX4_byLot 79 = .ok (.iload 9, 2) := by decide +kernel
theorem dX4_byLot_81 : decode cX4_byLot 81 = .ok (.iload 4, 2) := by decide +kernel
theorem dX4_byLot_83 : decode cX4_byLot 83 = .ok (.ldc 136, 2) := by decide +kernel
theorem dX4_byLot_85 : decode cX4_byLot 85 = .ok (.iand, 1) := by decide +kernel
theorem dX4_byLot_86 : decode cX4_byLot 86 = .ok (.ldc 137, 2) := by decide +kernel
theorem dX4_byLot_88 : decode cX4_byLot 88 = .ok (.idiv, 1) := by decide +kernel
theorem dX4_byLot_89 : decode cX4_byLot 89 = .ok (.bipush 60, 2) := by decide +kernel
theorem dX4_byLot_91 : decode cX4_byLot 91 = .ok (.irem, 1) := by decide +kernel
theorem dX4_byLot_92 : decode cX4_byLot 92 = .ok (.invokevirtual 59, 3) := by decide +kernel
theorem dX4_byLot_95 : decode cX4_byLot 95 = .ok (.iinc 9 1, 3) := by decide +kernel
theorem dX4_byLot_98 : decode cX4_byLot 98 = .ok (.goto (-48), 3) := by decide +kernel
theorem dX4_byLot_101 : decode cX4_byLot 101 = .ok (.iinc 8 1, 3) := by decide +kernel
theorem dX4_byLot_104 : decode cX4_byLot 104 = .ok (.goto (-72), 3) := by decide +kernel
theorem dX4_byLot_107 : decode cX4_byLot 107 = .ok (.iload 5, 2) := by decide +kernel
theorem dX4_byLot_109 : decode cX4_byLot 109 = .ok (.aload_n 0, 1) := by decide +kernel
theorem dX4_byLot_110 : decode cX4_byLot 110 = .ok (.getfield 12, 3) := by decide +kernel
theorem dX4_byLot_113 : decode cX4_byLot 113 = .ok (.bipush 10, 2) := by decide +kernel
theorem dX4_byLot_115 : decode cX4_byLot 115 = .ok (.invokevirtual 25, 3) := by decide +kernel
theorem dX4_byLot_118 : decode cX4_byLot 118 = .ok (.aload_n 0, 1) := by decide +kernel
theorem dX4_byLot_119 : decode cX4_byLot 119 = .ok (.getfield 18, 3) := by decide +kernel
theorem dX4_byLot_122 : decode cX4_byLot 122 = .ok (.invokevirtual 100, 3) := by decide +kernel
theorem dX4_byLot_125 : decode cX4_byLot 125 = .ok (.isub, 1) := by decide +kernel
theorem dX4_byLot_126 : decode cX4_byLot 126 = .ok (.iadd, 1) := by decide +kernel
theorem dX4_byLot_127 : decode cX4_byLot 127 = .ok (.istore 5, 2) := by decide +kernel
theorem dX4_byLot_129 : decode cX4_byLot 129 = .ok (.iload 6, 2) := by decide +kernel
theorem dX4_byLot_131 : decode cX4_byLot 131 = .ok (.aload_n 0, 1) := by decide +kernel
theorem dX4_byLot_132 : decode cX4_byLot 132 = .ok (.getfield 12, 3) := by decide +kernel
theorem dX4_byLot_135 : decode cX4_byLot 135 = .ok (.invokevirtual 37, 3) := by decide +kernel
theorem dX4_byLot_138 : decode cX4_byLot 138 = .ok (.iadd, 1) := by decide +kernel
theorem dX4_byLot_139 : decode cX4_byLot 139 = .ok (.istore 6, 2) := by decide +kernel
theorem dX4_byLot_141 : decode cX4_byLot 141 = .ok (.iinc 7 1, 3) := by decide +kernel
theorem dX4_byLot_144 : decode cX4_byLot 144 = .ok (.goto (-132), 3) := by decide +kernel
theorem dX4_byLot_147 : decode cX4_byLot 147 = .ok (.iload_n 3, 1) := by decide +kernel
theorem dX4_byLot_148 : decode cX4_byLot 148 = .ok (.ifCond .ne 8, 3) := by decide +kernel
theorem dX4_byLot_151 : decode cX4_byLot 151 = .ok (.iload 5, 2) := by decide +kernel
theorem dX4_byLot_153 : decode cX4_byLot 153 = .ok (.goto 5, 3) := by decide +kernel
theorem dX4_byLot_156 : decode cX4_byLot 156 = .ok (.iload 6, 2) := by decide +kernel
theorem dX4_byLot_158 : decode cX4_byLot 158 = .ok (.ireturn, 1) := by decide +kernel
theorem dX5_init_0 : decode cX5_init 0 = .ok (.aload_n 0, 1) := by decide +kernel
theorem dX5_init_1 : decode cX5_init 1 = .ok (.invokespecial 1, 3) := by decide +kernel
theorem dX5_init_4 : decode cX5_init 4 = .ok (.aload_n 0, 1) := by decide +kernel
theorem dX5_init_5 : decode cX5_init 5 = .ok (.bipush 8, 2) := by decide +kernel
theorem dX5_init_7 : decode cX5_init 7 = .ok (.anewarray 9, 3) := by decide +kernel
theorem dX5_init_10 : decode cX5_init 10 = .ok (.putfield 11, 3) := by decide +kernel
theorem dX5_init_13 : decode cX5_init 13 = .ok (.iconst 0, 1) := by decide +kernel
theorem dX5_init_14 : decode cX5_init 14 = .ok (.istore_n 1, 1) := by decide +kernel
theorem dX5_init_15 : decode cX5_init 15 = .ok (.iload_n 1, 1) := by decide +kernel
theorem dX5_init_16 : decode cX5_init 16 = .ok (.bipush 8, 2) := by decide +kernel
theorem dX5_init_18 : decode cX5_init 18 = .ok (.if_icmp .ge 22, 3) := by decide +kernel
theorem dX5_init_21 : decode cX5_init 21 = .ok (.aload_n 0, 1) := by decide +kernel
theorem dX5_init_22 : decode cX5_init 22 = .ok (.getfield 11, 3) := by decide +kernel
theorem dX5_init_25 : decode cX5_init 25 = .ok (.iload_n 1, 1) := by decide +kernel
theorem dX5_init_26 : decode cX5_init 26 = .ok (.new 9, 3) := by decide +kernel
theorem dX5_init_29 : decode cX5_init 29 = .ok (.dup, 1) := by decide +kernel
theorem dX5_init_30 : decode cX5_init 30 = .ok (.invokespecial 15, 3) := by decide +kernel
theorem dX5_init_33 : decode cX5_init 33 = .ok (.aastore, 1) := by decide +kernel
theorem dX5_init_34 : decode cX5_init 34 = .ok (.iinc 1 1, 3) := by decide +kernel
theorem dX5_init_37 : decode cX5_init 37 = .ok (.goto (-22), 3) := by decide +kernel
theorem dX5_init_40 : decode cX5_init 40 = .ok (.return_, 1) := by decide +kernel
theorem dX5_size_0 : decode cX5_size 0 = .ok (.aload_n 0, 1) := by decide +kernel
theorem dX5_size_1 : decode cX5_size 1 = .ok (.getfield 16, 3) := by decide +kernel
theorem dX5_size_4 : decode cX5_size 4 = .ok (.ireturn, 1) := by decide +kernel
theorem dX5_forget_0 : decode cX5_forget 0 = .ok (.aload_n 0, 1) := by decide +kernel
theorem dX5_forget_1 : decode cX5_forget 1 = .ok (.iconst 0, 1) := by decide +kernel
theorem dX5_forget_2 : decode cX5_forget 2 = .ok (.putfield 16, 3) := by decide +kernel
theorem dX5_forget_5 : decode cX5_forget 5 = .ok (.return_, 1) := by decide +kernel
theorem dX5_remember_0 : decode cX5_remember 0 = .ok (.aload_n 0, 1) := by decide +kernel
theorem dX5_remember_1 : decode cX5_remember 1 = .ok (.aload_n 0, 1) := by decide +kernel
theorem dX5_remember_2 : decode cX5_remember 2 = .ok (.getfield 20, 3) := by decide +kernel
theorem dX5_remember_5 : decode cX5_remember 5 = .ok (.invokevirtual 23, 3) := by decide +kernel
theorem dX5_remember_8 : decode cX5_remember 8 = .ok (.astore_n 2, 1) := by decide +kernel
theorem dX5_remember_9 : decode cX5_remember 9 = .ok (.aload_n 2, 1) := by decide +kernel
theorem dX5_remember_10 : decode cX5_remember 10 = .ok (.ifnull 36, 3) := by decide +kernel
theorem dX5_remember_13 : decode cX5_remember 13 = .ok (.aload_n 2, 1) := by decide +kernel
theorem dX5_remember_14 : decode cX5_remember 14 = .ok (.aload_n 1, 1) := by decide +kernel
theorem dX5_remember_15 : decode cX5_remember 15 = .ok (.invokevirtual 27, 3) := by decide +kernel
theorem dX5_remember_18 : decode cX5_remember 18 = .ok (.aload_n 0, 1) := by decide +kernel
theorem dX5_remember_19 : decode cX5_remember 19 = .ok (.aload_n 0, 1) := by decide +kernel
theorem dX5_remember_20 : decode cX5_remember 20 = .ok (.getfield 20, 3) := by decide +kernel
theorem dX5_remember_23 : decode cX5_remember 23 = .ok (.iconst 1, 1) := by decide +kernel
theorem dX5_remember_24 : decode cX5_remember 24 = .ok (.iadd, 1) := by decide +kernel
theorem dX5_remember_25 : decode cX5_remember 25 = .ok (.bipush 8, 2) := by decide +kernel
theorem dX5_remember_27 : decode cX5_remember 27 = .ok (.irem, 1) := by decide +kernel
theorem dX5_remember_28 : decode cX5_remember 28 = .ok (.putfield 20, 3) := by decide +kernel
theorem dX5_remember_31 : decode cX5_remember 31 = .ok (.aload_n 0, 1) := by decide +kernel
theorem dX5_remember_32 : decode cX5_remember 32 = .ok (.bipush 8, 2) := by decide +kernel
theorem dX5_remember_34 : decode cX5_remember 34 = .ok (.aload_n 0, 1) := by decide +kernel
theorem dX5_remember_35 : decode cX5_remember 35 = .ok (.getfield 16, 3) := by decide +kernel
theorem dX5_remember_38 : decode cX5_remember 38 = .ok (.iconst 1, 1) := by decide +kernel
theorem dX5_remember_39 : decode cX5_remember 39 = .ok (.iadd, 1) := by decide +kernel
theorem dX5_remember_40 : decode cX5_remember 40 = .ok (.invokestatic 31, 3) := by decide +kernel
theorem dX5_remember_43 : decode cX5_remember 43 = .ok (.putfield 16, 3) := by decide +kernel
theorem dX5_remember_46 : decode cX5_remember 46 = .ok (.return_, 1) := by decide +kernel
theorem dX5_takeBack_0 : decode cX5_takeBack 0 = .ok (.aload_n 0, 1) := by decide +kernel
theorem dX5_takeBack_1 : decode cX5_takeBack 1 = .ok (.getfield 20, 3) := by decide +kernel
theorem dX5_takeBack_4 : decode cX5_takeBack 4 = .ok (.bipush 8, 2) := by decide +kernel
theorem dX5_takeBack_6 : decode cX5_takeBack 6 = .ok (.iadd, 1) := by decide +kernel
theorem dX5_takeBack_7 : decode cX5_takeBack 7 = .ok (.iconst 1, 1) := by decide +kernel
theorem dX5_takeBack_8 : decode cX5_takeBack 8 = .ok (.isub, 1) := by decide +kernel
theorem dX5_takeBack_9 : decode cX5_takeBack 9 = .ok (.bipush 8, 2) := by decide +kernel
theorem dX5_takeBack_11 : decode cX5_takeBack 11 = .ok (.irem, 1) := by decide +kernel
theorem dX5_takeBack_12 : decode cX5_takeBack 12 = .ok (.istore_n 2, 1) := by decide +kernel
theorem dX5_takeBack_13 : decode cX5_takeBack 13 = .ok (.aload_n 0, 1) := by decide +kernel
theorem dX5_takeBack_14 : decode cX5_takeBack 14 = .ok (.iload_n 2, 1) := by decide +kernel
theorem dX5_takeBack_15 : decode cX5_takeBack 15 = .ok (.invokevirtual 23, 3) := by decide +kernel
theorem dX5_takeBack_18 : decode cX5_takeBack 18 = .ok (.astore_n 3, 1) := by decide +kernel
theorem dX5_takeBack_19 : decode cX5_takeBack 19 = .ok (.aload_n 0, 1) := by decide +kernel
theorem dX5_takeBack_20 : decode cX5_takeBack 20 = .ok (.getfield 16, 3) := by decide +kernel
theorem dX5_takeBack_23 : decode cX5_takeBack 23 = .ok (.ifCond .le 31, 3) := by decide +kernel
theorem dX5_takeBack_26 : decode cX5_takeBack 26 = .ok (.aload_n 1, 1) := by decide +kernel
theorem dX5_takeBack_27 : decode cX5_takeBack 27 = .ok (.ifnull 27, 3) := by decide +kernel
theorem dX5_takeBack_30 : decode cX5_takeBack 30 = .ok (.aload_n 3, 1) := by decide +kernel
theorem dX5_takeBack_31 : decode cX5_takeBack 31 = .ok (.ifnull 23, 3) := by decide +kernel
theorem dX5_takeBack_34 : decode cX5_takeBack 34 = .ok (.aload_n 1, 1) := by decide +kernel
theorem dX5_takeBack_35 : decode cX5_takeBack 35 = .ok (.aload_n 3, 1) := by decide +kernel
theorem dX5_takeBack_36 : decode cX5_takeBack 36 = .ok (.invokevirtual 27, 3) := by decide +kernel
theorem dX5_takeBack_39 : decode cX5_takeBack 39 = .ok (.aload_n 0, 1) := by decide +kernel
theorem dX5_takeBack_40 : decode cX5_takeBack 40 = .ok (.iload_n 2, 1) := by decide +kernel
theorem dX5_takeBack_41 : decode cX5_takeBack 41 = .ok (.putfield 20, 3) := by decide +kernel
theorem dX5_takeBack_44 : decode cX5_takeBack 44 = .ok (.aload_n 0, 1) := by decide +kernel
theorem dX5_takeBack_45 : decode cX5_takeBack 45 = .ok (.dup, 1) := by decide +kernel
theorem dX5_takeBack_46 : decode cX5_takeBack 46 = .ok (.getfield 16, 3) := by decide +kernel
theorem dX5_takeBack_49 : decode cX5_takeBack 49 = .ok (.iconst 1, 1) := by decide +kernel
theorem dX5_takeBack_50 : decode cX5_takeBack 50 = .ok (.isub, 1) := by decide +kernel
theorem dX5_takeBack_51 : decode cX5_takeBack 51 = .ok (.putfield 16, 3) := by decide +kernel
theorem dX5_takeBack_54 : decode cX5_takeBack 54 = .ok (.return_, 1) := by decide +kernel
theorem dX5_country_0 : decode cX5_country 0 = .ok (.iload_n 1, 1) := by decide +kernel
theorem dX5_country_1 : decode cX5_country 1 = .ok (.ifCond .lt 21, 3) := by decide +kernel
theorem dX5_country_4 : decode cX5_country 4 = .ok (.iload_n 1, 1) := by decide +kernel
theorem dX5_country_5 : decode cX5_country 5 = .ok (.aload_n 0, 1) := by decide +kernel
theorem dX5_country_6 : decode cX5_country 6 = .ok (.getfield 11, 3) := by decide +kernel
theorem dX5_country_9 : decode cX5_country 9 = .ok (.arraylength, 1) := by decide +kernel
theorem dX5_country_10 : decode cX5_country 10 = .ok (.if_icmp .ge 12, 3) := by decide +kernel
theorem dX5_country_13 : decode cX5_country 13 = .ok (.aload_n 0, 1) := by decide +kernel
theorem dX5_country_14 : decode cX5_country 14 = .ok (.getfield 11, 3) := by decide +kernel
theorem dX5_country_17 : decode cX5_country 17 = .ok (.iload_n 1, 1) := by decide +kernel
theorem dX5_country_18 : decode cX5_country 18 = .ok (.aaload, 1) := by decide +kernel
theorem dX5_country_19 : decode cX5_country 19 = .ok (.goto 4, 3) := by decide +kernel
theorem dX5_country_22 : decode cX5_country 22 = .ok (.aconst_null, 1) := by decide +kernel
theorem dX5_country_23 : decode cX5_country 23 = .ok (.areturn, 1) := by decide +kernel
theorem dX6_init_0 : decode cX6_init 0 = .ok (.aload_n 0, 1) := by decide +kernel
theorem dX6_init_1 : decode cX6_init 1 = .ok (.invokespecial 1, 3) := by decide +kernel
theorem dX6_init_4 : decode cX6_init 4 = .ok (.aload_n 0, 1) := by decide +kernel
theorem dX6_init_5 : decode cX6_init 5 = .ok (.bipush 12, 2) := by decide +kernel
theorem dX6_init_7 : decode cX6_init 7 = .ok (.newarray .int, 2) := by decide +kernel
theorem dX6_init_9 : decode cX6_init 9 = .ok (.putfield 9, 3) := by decide +kernel
theorem dX6_init_12 : decode cX6_init 12 = .ok (.return_, 1) := by decide +kernel
theorem dX6_size_0 : decode cX6_size 0 = .ok (.aload_n 0, 1) := by decide +kernel
theorem dX6_size_1 : decode cX6_size 1 = .ok (.getfield 13, 3) := by decide +kernel
theorem dX6_size_4 : decode cX6_size 4 = .ok (.ireturn, 1) := by decide +kernel
theorem dX6_isFull_0 : decode cX6_isFull 0 = .ok (.aload_n 0, 1) := by decide +kernel
theorem dX6_isFull_1 : decode cX6_isFull 1 = .ok (.getfield 13, 3) := by decide +kernel
theorem dX6_isFull_4 : decode cX6_isFull 4 = .ok (.bipush 12, 2) := by decide +kernel
theorem dX6_isFull_6 : decode cX6_isFull 6 = .ok (.if_icmp .lt 7, 3) := by decide +kernel
theorem dX6_isFull_9 : decode cX6_isFull 9 = .ok (.iconst 1, 1) := by decide +kernel
theorem dX6_isFull_10 : decode cX6_isFull 10 = .ok (.goto 4, 3) := by decide +kernel
theorem dX6_isFull_13 : decode cX6_isFull 13 = .ok (.iconst 0, 1) := by decide +kernel
theorem dX6_isFull_14 : decode cX6_isFull 14 = .ok (.ireturn, 1) := by decide +kernel
theorem dX6_add_0 : decode cX6_add 0 = .ok (.aload_n 0, 1) := by decide +kernel
theorem dX6_add_1 : decode cX6_add 1 = .ok (.getfield 9, 3) := by decide +kernel
theorem dX6_add_4 : decode cX6_add 4 = .ok (.aload_n 0, 1) := by decide +kernel
theorem dX6_add_5 : decode cX6_add 5 = .ok (.getfield 13, 3) := by decide +kernel
theorem dX6_add_8 : decode cX6_add 8 = .ok (.iload_n 1, 1) := by decide +kernel
theorem dX6_add_9 : decode cX6_add 9 = .ok (.invokestatic 17, 3) := by decide +kernel
theorem dX6_add_12 : decode cX6_add 12 = .ok (.aload_n 0, 1) := by decide +kernel
theorem dX6_add_13 : decode cX6_add 13 = .ok (.bipush 12, 2) := by decide +kernel
theorem dX6_add_15 : decode cX6_add 15 = .ok (.aload_n 0, 1) := by decide +kernel
theorem dX6_add_16 : decode cX6_add 16 = .ok (.getfield 13, 3) := by decide +kernel
theorem dX6_add_19 : decode cX6_add 19 = .ok (.iconst 1, 1) := by decide +kernel
theorem dX6_add_20 : decode cX6_add 20 = .ok (.iadd, 1) := by decide +kernel
theorem dX6_add_21 : decode cX6_add 21 = .ok (.invokestatic 23, 3) := by decide +kernel
theorem dX6_add_24 : decode cX6_add 24 = .ok (.putfield 13, 3) := by decide +kernel
theorem dX6_add_27 : decode cX6_add 27 = .ok (.aload_n 0, 1) := by decide +kernel
theorem dX6_add_28 : decode cX6_add 28 = .ok (.getfield 13, 3) := by decide +kernel
theorem dX6_add_31 : decode cX6_add 31 = .ok (.ireturn, 1) := by decide +kernel
theorem dX6_number_0 : decode cX6_number 0 = .ok (.aload_n 0, 1) := by decide +kernel
theorem dX6_number_1 : decode cX6_number 1 = .ok (.getfield 9, 3) := by decide +kernel
theorem dX6_number_4 : decode cX6_number 4 = .ok (.iload_n 1, 1) := by decide +kernel
theorem dX6_number_5 : decode cX6_number 5 = .ok (.invokestatic 29, 3) := by decide +kernel
theorem dX6_number_8 : decode cX6_number 8 = .ok (.ireturn, 1) := by decide +kernel
theorem dX6_empty_0 : decode cX6_empty 0 = .ok (.aload_n 0, 1) := by decide +kernel
theorem dX6_empty_1 : decode cX6_empty 1 = .ok (.iconst 0, 1) := by decide +kernel
theorem dX6_empty_2 : decode cX6_empty 2 = .ok (.putfield 13, 3) := by decide +kernel
theorem dX6_empty_5 : decode cX6_empty 5 = .ok (.return_, 1) := by decide +kernel
theorem dX7_init_0 : decode cX7_init 0 = .ok (.aload_n 0, 1) := by decide +kernel
theorem dX7_init_1 : decode cX7_init 1 = .ok (.invokespecial 3, 3) := by decide +kernel
theorem dX7_init_4 : decode cX7_init 4 = .ok (.aload_n 0, 1) := by decide +kernel
theorem dX7_init_5 : decode cX7_init 5 = .ok (.bipush 96, 2) := by decide +kernel
theorem dX7_init_7 : decode cX7_init 7 = .ok (.newarray .int, 2) := by decide +kernel
theorem dX7_init_9 : decode cX7_init 9 = .ok (.putfield 11, 3) := by decide +kernel
theorem dX7_init_12 : decode cX7_init 12 = .ok (.return_, 1) := by decide +kernel
theorem dX7_size_0 : decode cX7_size 0 = .ok (.aload_n 0, 1) := by decide +kernel
theorem dX7_size_1 : decode cX7_size 1 = .ok (.getfield 15, 3) := by decide +kernel
theorem dX7_size_4 : decode cX7_size 4 = .ok (.ireturn, 1) := by decide +kernel
theorem dX7_isFull_0 : decode cX7_isFull 0 = .ok (.aload_n 0, 1) := by decide +kernel
theorem dX7_isFull_1 : decode cX7_isFull 1 = .ok (.getfield 15, 3) := by decide +kernel
theorem dX7_isFull_4 : decode cX7_isFull 4 = .ok (.bipush 96, 2) := by decide +kernel
theorem dX7_isFull_6 : decode cX7_isFull 6 = .ok (.if_icmp .lt 7, 3) := by decide +kernel
theorem dX7_isFull_9 : decode cX7_isFull 9 = .ok (.iconst 1, 1) := by decide +kernel
theorem dX7_isFull_10 : decode cX7_isFull 10 = .ok (.goto 4, 3) := by decide +kernel
theorem dX7_isFull_13 : decode cX7_isFull 13 = .ok (.iconst 0, 1) := by decide +kernel
theorem dX7_isFull_14 : decode cX7_isFull 14 = .ok (.ireturn, 1) := by decide +kernel
theorem dX7_add_0 : decode cX7_add 0 = .ok (.aload_n 0, 1) := by decide +kernel
theorem dX7_add_1 : decode cX7_add 1 = .ok (.getfield 11, 3) := by decide +kernel
theorem dX7_add_4 : decode cX7_add 4 = .ok (.aload_n 0, 1) := by decide +kernel
theorem dX7_add_5 : decode cX7_add 5 = .ok (.getfield 15, 3) := by decide +kernel
theorem dX7_add_8 : decode cX7_add 8 = .ok (.iload_n 1, 1) := by decide +kernel
theorem dX7_add_9 : decode cX7_add 9 = .ok (.invokestatic 19, 3) := by decide +kernel
theorem dX7_add_12 : decode cX7_add 12 = .ok (.aload_n 0, 1) := by decide +kernel
theorem dX7_add_13 : decode cX7_add 13 = .ok (.bipush 96, 2) := by decide +kernel
theorem dX7_add_15 : decode cX7_add 15 = .ok (.aload_n 0, 1) := by decide +kernel
theorem dX7_add_16 : decode cX7_add 16 = .ok (.getfield 15, 3) := by decide +kernel
theorem dX7_add_19 : decode cX7_add 19 = .ok (.iconst 1, 1) := by decide +kernel
theorem dX7_add_20 : decode cX7_add 20 = .ok (.iadd, 1) := by decide +kernel
theorem dX7_add_21 : decode cX7_add 21 = .ok (.invokestatic 23, 3) := by decide +kernel
theorem dX7_add_24 : decode cX7_add 24 = .ok (.putfield 15, 3) := by decide +kernel
theorem dX7_add_27 : decode cX7_add 27 = .ok (.aload_n 0, 1) := by decide +kernel
theorem dX7_add_28 : decode cX7_add 28 = .ok (.getfield 15, 3) := by decide +kernel
theorem dX7_add_31 : decode cX7_add 31 = .ok (.ireturn, 1) := by decide +kernel
theorem dX7_empty_0 : decode cX7_empty 0 = .ok (.aload_n 0, 1) := by decide +kernel
theorem dX7_empty_1 : decode cX7_empty 1 = .ok (.iconst 0, 1) := by decide +kernel
theorem dX7_empty_2 : decode cX7_empty 2 = .ok (.putfield 15, 3) := by decide +kernel
theorem dX7_empty_5 : decode cX7_empty 5 = .ok (.return_, 1) := by decide +kernel
theorem dX7_tellTo_0 : decode cX7_tellTo 0 = .ok (.aload_n 0, 1) := by decide +kernel
theorem dX7_tellTo_1 : decode cX7_tellTo 1 = .ok (.invokevirtual 29, 3) := by decide +kernel
theorem dX7_tellTo_4 : decode cX7_tellTo 4 = .ok (.istore_n 2, 1) := by decide +kernel
theorem dX7_tellTo_5 : decode cX7_tellTo 5 = .ok (.iload_n 2, 1) := by decide +kernel
theorem dX7_tellTo_6 : decode cX7_tellTo 6 = .ok (.iconst (-1), 1) := by decide +kernel
theorem dX7_tellTo_7 : decode cX7_tellTo 7 = .ok (.if_icmp .eq 9, 3) := by decide +kernel
theorem dX7_tellTo_10 : decode cX7_tellTo 10 = .ok (.sipush (-1000), 3) := by decide +kernel
theorem dX7_tellTo_13 : decode cX7_tellTo 13 = .ok (.iload_n 2, 1) := by decide +kernel
theorem dX7_tellTo_14 : decode cX7_tellTo 14 = .ok (.isub, 1) := by decide +kernel
theorem dX7_tellTo_15 : decode cX7_tellTo 15 = .ok (.ireturn, 1) := by decide +kernel
theorem dX7_tellTo_16 : decode cX7_tellTo 16 = .ok (.iconst 0, 1) := by decide +kernel
theorem dX7_tellTo_17 : decode cX7_tellTo 17 = .ok (.istore_n 3, 1) := by decide +kernel
theorem dX7_tellTo_18 : decode cX7_tellTo 18 = .ok (.iconst 0, 1) := by decide +kernel
theorem dX7_tellTo_19 : decode cX7_tellTo 19 = .ok (.istore 4, 2) := by decide +kernel
theorem dX7_tellTo_21 : decode cX7_tellTo 21 = .ok (.iconst 0, 1) := by decide +kernel
theorem dX7_tellTo_22 : decode cX7_tellTo 22 = .ok (.istore 5, 2) := by decide +kernel
theorem dX7_tellTo_24 : decode cX7_tellTo 24 = .ok (.iload 5, 2) := by decide +kernel
theorem dX7_tellTo_26 : decode cX7_tellTo 26 = .ok (.bipush 96, 2) := by decide +kernel
theorem dX7_tellTo_28 : decode cX7_tellTo 28 = .ok (.if_icmp .ge 65, 3) := by decide +kernel
theorem dX7_tellTo_31 : decode cX7_tellTo 31 = .ok (.iload 4, 2) := by decide +kernel
theorem dX7_tellTo_33 : decode cX7_tellTo 33 = .ok (.aload_n 0, 1) := by decide +kernel
theorem dX7_tellTo_34 : decode cX7_tellTo 34 = .ok (.getfield 15, 3) := by decide +kernel
theorem dX7_tellTo_37 : decode cX7_tellTo 37 = .ok (.if_icmp .ge 56, 3) := by decide +kernel
theorem dX7_tellTo_40 : decode cX7_tellTo 40 = .ok (.aload_n 1, 1) := by decide +kernel
theorem dX7_tellTo_41 : decode cX7_tellTo 41 = .ok (.ifnull 13, 3) := by decide +kernel
theorem dX7_tellTo_44 : decode cX7_tellTo 44 = .ok (.aload_n 0, 1) := by decide +kernel
theorem dX7_tellTo_45 : decode cX7_tellTo 45 = .ok (.iload 4, 2) := by decide +kernel
theorem dX7_tellTo_47 : decode cX7_tellTo 47 = .ok (.aload_n 1, 1) := by decide +kernel
theorem dX7_tellTo_48 : decode cX7_tellTo 48 = .ok (.invokevirtual 33, 3) := by decide +kernel
theorem dX7_tellTo_51 : decode cX7_tellTo 51 = .ok (.ifCond .ne 10, 3) := by decide +kernel
theorem dX7_tellTo_54 : decode cX7_tellTo 54 = .ok (.sipush (-2000), 3) := by decide +kernel
theorem dX7_tellTo_57 : decode cX7_tellTo 57 = .ok (.iload 4, 2) := by decide +kernel
theorem dX7_tellTo_59 : decode cX7_tellTo 59 = .ok (.isub, 1) := by decide +kernel
theorem dX7_tellTo_60 : decode cX7_tellTo 60 = .ok (.ireturn, 1) := by decide +kernel
theorem dX7_tellTo_61 : decode cX7_tellTo 61 = .ok (.aload_n 0, 1) := by decide +kernel
theorem dX7_tellTo_62 : decode cX7_tellTo 62 = .ok (.iload 4, 2) := by decide +kernel
theorem dX7_tellTo_64 : decode cX7_tellTo 64 = .ok (.aload_n 1, 1) := by decide +kernel
theorem dX7_tellTo_65 : decode cX7_tellTo 65 = .ok (.invokevirtual 37, 3) := by decide +kernel
theorem dX7_tellTo_68 : decode cX7_tellTo 68 = .ok (.iinc 3 1, 3) := by decide +kernel
theorem dX7_tellTo_71 : decode cX7_tellTo 71 = .ok (.iload 4, 2) := by decide +kernel
theorem dX7_tellTo_73 : decode cX7_tellTo 73 = .ok (.aload_n 0, 1) := by decide +kernel
theorem dX7_tellTo_74 : decode cX7_tellTo 74 = .ok (.iload 4, 2) := by decide +kernel
theorem dX7_tellTo_76 : decode cX7_tellTo 76 = .ok (.invokevirtual 41, 3) := by decide +kernel
theorem dX7_tellTo_79 : decode cX7_tellTo 79 = .ok (.invokestatic 45, 3) := by decide +kernel
theorem dX7_tellTo_82 : decode cX7_tellTo 82 = .ok (.iconst 2, 1) := by decide +kernel
theorem dX7_tellTo_83 : decode cX7_tellTo 83 = .ok (.iadd, 1) := by decide +kernel
theorem dX7_tellTo_84 : decode cX7_tellTo 84 = .ok (.iadd, 1) := by decide +kernel
theorem dX7_tellTo_85 : decode cX7_tellTo 85 = .ok (.istore 4, 2) := by decide +kernel
theorem dX7_tellTo_87 : decode cX7_tellTo 87 = .ok (.iinc 5 1, 3) := by decide +kernel
theorem dX7_tellTo_90 : decode cX7_tellTo 90 = .ok (.goto (-66), 3) := by decide +kernel
theorem dX7_tellTo_93 : decode cX7_tellTo 93 = .ok (.iload_n 3, 1) := by decide +kernel
theorem dX7_tellTo_94 : decode cX7_tellTo 94 = .ok (.ireturn, 1) := by decide +kernel
theorem dX7_brokenPlace_0 : decode cX7_brokenPlace 0 = .ok (.aload_n 0, 1) := by decide +kernel
theorem dX7_brokenPlace_1 : decode cX7_brokenPlace 1 = .ok (.getfield 15, 3) := by decide +kernel
theorem dX7_brokenPlace_4 : decode cX7_brokenPlace 4 = .ok (.ifCond .ne 5, 3) := by decide +kernel
theorem dX7_brokenPlace_7 : decode cX7_brokenPlace 7 = .ok (.iconst 0, 1) := by decide +kernel
theorem dX7_brokenPlace_8 : decode cX7_brokenPlace 8 = .ok (.ireturn, 1) := by decide +kernel
theorem dX7_brokenPlace_9 : decode cX7_brokenPlace 9 = .ok (.iconst 0, 1) := by decide +kernel
theorem dX7_brokenPlace_10 : decode cX7_brokenPlace 10 = .ok (.istore_n 1, 1) := by decide +kernel
theorem dX7_brokenPlace_11 : decode cX7_brokenPlace 11 = .ok (.iconst 0, 1) := by decide +kernel
theorem dX7_brokenPlace_12 : decode cX7_brokenPlace 12 = .ok (.istore_n 2, 1) := by decide +kernel
theorem dX7_brokenPlace_13 : decode cX7_brokenPlace 13 = .ok (.iload_n 2, 1) := by decide +kernel
theorem dX7_brokenPlace_14 : decode cX7_brokenPlace 14 = .ok (.bipush 96, 2) := by decide +kernel
theorem dX7_brokenPlace_16 : decode cX7_brokenPlace 16 = .ok (.if_icmp .ge 88, 3) := by decide +kernel
theorem dX7_brokenPlace_19 : decode cX7_brokenPlace 19 = .ok (.iload_n 1, 1) := by decide +kernel
theorem dX7_brokenPlace_20 : decode cX7_brokenPlace 20 = .ok (.aload_n 0, 1) := by decide +kernel
theorem dX7_brokenPlace_21 : decode cX7_brokenPlace 21 = .ok (.getfield 15, 3) := by decide +kernel
theorem dX7_brokenPlace_24 : decode cX7_brokenPlace 24 = .ok (.if_icmp .ge 80, 3) := by decide +kernel
theorem dX7_brokenPlace_27 : decode cX7_brokenPlace 27 = .ok (.aload_n 0, 1) := by decide +kernel
theorem dX7_brokenPlace_28 : decode cX7_brokenPlace 28 = .ok (.iload_n 1, 1) := by decide +kernel
theorem dX7_brokenPlace_29 : decode cX7_brokenPlace 29 = .ok (.invokevirtual 41, 3) := by decide +kernel
theorem dX7_brokenPlace_32 : decode cX7_brokenPlace 32 = .ok (.invokestatic 45, 3) := by decide +kernel
theorem dX7_brokenPlace_35 : decode cX7_brokenPlace 35 = .ok (.istore_n 3, 1) := by decide +kernel
theorem dX7_brokenPlace_36 : decode cX7_brokenPlace 36 = .ok (.iload_n 3, 1) := by decide +kernel
theorem dX7_brokenPlace_37 : decode cX7_brokenPlace 37 = .ok (.ifCond .ne 5, 3) := by decide +kernel
theorem dX7_brokenPlace_40 : decode cX7_brokenPlace 40 = .ok (.iload_n 1, 1) := by decide +kernel
theorem dX7_brokenPlace_41 : decode cX7_brokenPlace 41 = .ok (.ireturn, 1) := by decide +kernel
theorem dX7_brokenPlace_42 : decode cX7_brokenPlace 42 = .ok (.iload_n 1, 1) := by decide +kernel
theorem dX7_brokenPlace_43 : decode cX7_brokenPlace 43 = .ok (.iload_n 3, 1) := by decide +kernel
theorem dX7_brokenPlace_44 : decode cX7_brokenPlace 44 = .ok (.iadd, 1) := by decide +kernel
theorem dX7_brokenPlace_45 : decode cX7_brokenPlace 45 = .ok (.iconst 1, 1) := by decide +kernel
theorem dX7_brokenPlace_46 : decode cX7_brokenPlace 46 = .ok (.iadd, 1) := by decide +kernel
theorem dX7_brokenPlace_47 : decode cX7_brokenPlace 47 = .ok (.istore 4, 2) := by decide +kernel
theorem dX7_brokenPlace_49 : decode cX7_brokenPlace 49 = .ok (.iload_n 1, 1) := by decide +kernel
theorem dX7_brokenPlace_50 : decode cX7_brokenPlace 50 = .ok (.iconst 1, 1) := by decide +kernel
theorem dX7_brokenPlace_51 : decode cX7_brokenPlace 51 = .ok (.iadd, 1) := by decide +kernel
theorem dX7_brokenPlace_52 : decode cX7_brokenPlace 52 = .ok (.istore 5, 2) := by decide +kernel
theorem dX7_brokenPlace_54 : decode cX7_brokenPlace 54 = .ok (.iload 5, 2) := by decide +kernel
theorem dX7_brokenPlace_56 : decode cX7_brokenPlace 56 = .ok (.iload 4, 2) := by decide +kernel
theorem dX7_brokenPlace_58 : decode cX7_brokenPlace 58 = .ok (.if_icmp .ge 21, 3) := by decide +kernel
theorem dX7_brokenPlace_61 : decode cX7_brokenPlace 61 = .ok (.aload_n 0, 1) := by decide +kernel
theorem dX7_brokenPlace_62 : decode cX7_brokenPlace 62 = .ok (.iload 5, 2) := by decide +kernel
theorem dX7_brokenPlace_64 : decode cX7_brokenPlace 64 = .ok (.invokevirtual 48, 3) := by decide +kernel
theorem dX7_brokenPlace_67 : decode cX7_brokenPlace 67 = .ok (.ifCond .ne 6, 3) := by decide +kernel
theorem dX7_brokenPlace_70 : decode cX7_brokenPlace 70 = .ok (.iload 5, 2) := by decide +kernel
theorem dX7_brokenPlace_72 : decode cX7_brokenPlace 72 = .ok (.ireturn, 1) := by decide +kernel
theorem dX7_brokenPlace_73 : decode cX7_brokenPlace 73 = .ok (.iinc 5 1, 3) := by decide +kernel
theorem dX7_brokenPlace_76 : decode cX7_brokenPlace 76 = .ok (.goto (-22), 3) := by decide +kernel
theorem dX7_brokenPlace_79 : decode cX7_brokenPlace 79 = .ok (.aload_n 0, 1) := by decide +kernel
theorem dX7_brokenPlace_80 : decode cX7_brokenPlace 80 = .ok (.iload 4, 2) := by decide +kernel
theorem dX7_brokenPlace_82 : decode cX7_brokenPlace 82 = .ok (.invokevirtual 41, 3) := by decide +kernel
theorem dX7_brokenPlace_85 : decode cX7_brokenPlace 85 = .ok (.bipush 59, 2) := by decide +kernel
theorem dX7_brokenPlace_87 : decode cX7_brokenPlace 87 = .ok (.if_icmp .eq 6, 3) := by decide +kernel
theorem dX7_brokenPlace_90 : decode cX7_brokenPlace 90 = .ok (.iload 4, 2) := by decide +kernel
theorem dX7_brokenPlace_92 : decode cX7_brokenPlace 92 = .ok (.ireturn, 1) := by decide +kernel
theorem dX7_brokenPlace_93 : decode cX7_brokenPlace 93 = .ok (.iload 4, 2) := by decide +kernel
theorem dX7_brokenPlace_95 : decode cX7_brokenPlace 95 = .ok (.iconst 1, 1) := by decide +kernel
theorem dX7_brokenPlace_96 : decode cX7_brokenPlace 96 = .ok (.iadd, 1) := by decide +kernel
theorem dX7_brokenPlace_97 : decode cX7_brokenPlace 97 = .ok (.istore_n 1, 1) := by decide +kernel
theorem dX7_brokenPlace_98 : decode cX7_brokenPlace 98 = .ok (.iinc 2 1, 3) := by decide +kernel
theorem dX7_brokenPlace_101 : decode cX7_brokenPlace 101 = .ok (.goto (-88), 3) := by decide +kernel
theorem dX7_brokenPlace_104 : decode cX7_brokenPlace 104 = .ok (.iconst (-1), 1) := by decide +kernel
theorem dX7_brokenPlace_105 : decode cX7_brokenPlace 105 = .ok (.ireturn, 1) := by decide +kernel
theorem dX7_digitsBehind_0 : decode cX7_digitsBehind 0 = .ok (.iload_n 0, 1) := by decide +kernel
theorem dX7_digitsBehind_1 : decode cX7_digitsBehind 1 = .ok (.tableswitch 95 103 119 #[89, 85, 95, 95, 83, 87, 95, 95, 95, 95, 95, 95, 91, 95, 95, 95, 93], 83) := by decide +kernel
theorem dX7_digitsBehind_84 : decode cX7_digitsBehind 84 = .ok (.iconst 3, 1) := by decide +kernel
theorem dX7_digitsBehind_85 : decode cX7_digitsBehind 85 = .ok (.ireturn, 1) := by decide +kernel
theorem dX7_digitsBehind_86 : decode cX7_digitsBehind 86 = .ok (.iconst 4, 1) := by decide +kernel
theorem dX7_digitsBehind_87 : decode cX7_digitsBehind 87 = .ok (.ireturn, 1) := by decide +kernel
theorem dX7_digitsBehind_88 : decode cX7_digitsBehind 88 = .ok (.iconst 3, 1) := by decide +kernel
theorem dX7_digitsBehind_89 : decode cX7_digitsBehind 89 = .ok (.ireturn, 1) := by decide +kernel
theorem dX7_digitsBehind_90 : decode cX7_digitsBehind 90 = .ok (.iconst 2, 1) := by decide +kernel
theorem dX7_digitsBehind_91 : decode cX7_digitsBehind 91 = .ok (.ireturn, 1) := by decide +kernel
theorem dX7_digitsBehind_92 : decode cX7_digitsBehind 92 = .ok (.iconst 1, 1) := by decide +kernel
theorem dX7_digitsBehind_93 : decode cX7_digitsBehind 93 = .ok (.ireturn, 1) := by decide +kernel
theorem dX7_digitsBehind_94 : decode cX7_digitsBehind 94 = .ok (.iconst 2, 1) := by decide +kernel
theorem dX7_digitsBehind_95 : decode cX7_digitsBehind 95 = .ok (.ireturn, 1) := by decide +kernel
theorem dX7_digitsBehind_96 : decode cX7_digitsBehind 96 = .ok (.iconst 0, 1) := by decide +kernel
theorem dX7_digitsBehind_97 : decode cX7_digitsBehind 97 = .ok (.ireturn, 1) := by decide +kernel
theorem dX7_isRight_0 : decode cX7_isRight 0 = .ok (.aload_n 0, 1) := by decide +kernel
theorem dX7_isRight_1 : decode cX7_isRight 1 = .ok (.iload_n 1, 1) := by decide +kernel
theorem dX7_isRight_2 : decode cX7_isRight 2 = .ok (.iconst 1, 1) := by decide +kernel
theorem dX7_isRight_3 : decode cX7_isRight 3 = .ok (.iadd, 1) := by decide +kernel
theorem dX7_isRight_4 : decode cX7_isRight 4 = .ok (.invokevirtual 52, 3) := by decide +kernel
theorem dX7_isRight_7 : decode cX7_isRight 7 = .ok (.istore_n 3, 1) := by decide +kernel
theorem dX7_isRight_8 : decode cX7_isRight 8 = .ok (.aload_n 0, 1) := by decide +kernel
theorem dX7_isRight_9 : decode cX7_isRight 9 = .ok (.iload_n 1, 1) := by decide +kernel
theorem dX7_isRight_10 : decode cX7_isRight 10 = .ok (.iconst 2, 1) := by decide +kernel
theorem dX7_isRight_11 : decode cX7_isRight 11 = .ok (.iadd, 1) := by decide +kernel
theorem dX7_isRight_12 : decode cX7_isRight 12 = .ok (.invokevirtual 52, 3) := by decide +kernel
theorem dX7_isRight_15 : decode cX7_isRight 15 = .ok (.istore 4, 2) := by decide +kernel
theorem dX7_isRight_17 : decode cX7_isRight 17 = .ok (.aload_n 0, 1) := by decide +kernel
theorem dX7_isRight_18 : decode cX7_isRight 18 = .ok (.iload_n 1, 1) := by decide +kernel
theorem dX7_isRight_19 : decode cX7_isRight 19 = .ok (.iconst 3, 1) := by decide +kernel
theorem dX7_isRight_20 : decode cX7_isRight 20 = .ok (.iadd, 1) := by decide +kernel
theorem dX7_isRight_21 : decode cX7_isRight 21 = .ok (.invokevirtual 52, 3) := by decide +kernel
theorem dX7_isRight_24 : decode cX7_isRight 24 = .ok (.istore 5, 2) := by decide +kernel
theorem dX7_isRight_26 : decode cX7_isRight 26 = .ok (.aload_n 0, 1) := by decide +kernel
theorem dX7_isRight_27 : decode cX7_isRight 27 = .ok (.iload_n 1, 1) := by decide +kernel
theorem dX7_isRight_28 : decode cX7_isRight 28 = .ok (.iconst 1, 1) := by decide +kernel
theorem dX7_isRight_29 : decode cX7_isRight 29 = .ok (.iadd, 1) := by decide +kernel
theorem dX7_isRight_30 : decode cX7_isRight 30 = .ok (.invokevirtual 55, 3) := by decide +kernel
theorem dX7_isRight_33 : decode cX7_isRight 33 = .ok (.istore 6, 2) := by decide +kernel
theorem dX7_isRight_35 : decode cX7_isRight 35 = .ok (.aload_n 0, 1) := by decide +kernel
theorem dX7_isRight_36 : decode cX7_isRight 36 = .ok (.iload_n 1, 1) := by decide +kernel
theorem dX7_isRight_37 : decode cX7_isRight 37 = .ok (.invokevirtual 41, 3) := by decide +kernel
theorem dX7_isRight_40 : decode cX7_isRight 40 = .ok (.tableswitch 152 103 115 #[124, 95, 152, 152, 68, 103, 152, 152, 152, 152, 152, 152, 146], 68) := by decide +kernel
theorem dX7_isRight_108 : decode cX7_isRight 108 = .ok (.iload_n 3, 1) := by decide +kernel
theorem dX7_isRight_109 : decode cX7_isRight 109 = .ok (.bipush 6, 2) := by decide +kernel
theorem dX7_isRight_111 : decode cX7_isRight 111 = .ok (.if_icmp .ge 22, 3) := by decide +kernel
theorem dX7_isRight_114 : decode cX7_isRight 114 = .ok (.iload 5, 2) := by decide +kernel
theorem dX7_isRight_116 : decode cX7_isRight 116 = .ok (.invokestatic 58, 3) := by decide +kernel
theorem dX7_isRight_119 : decode cX7_isRight 119 = .ok (.ifCond .eq 14, 3) := by decide +kernel
theorem dX7_isRight_122 : decode cX7_isRight 122 = .ok (.aload_n 2, 1) := by decide +kernel
theorem dX7_isRight_123 : decode cX7_isRight 123 = .ok (.invokevirtual 61, 3) := by decide +kernel
theorem dX7_isRight_126 : decode cX7_isRight 126 = .ok (.ifCond .eq 7, 3) := by decide +kernel
theorem dX7_isRight_129 : decode cX7_isRight 129 = .ok (.iconst 1, 1) := by decide +kernel
theorem dX7_isRight_130 : decode cX7_isRight 130 = .ok (.goto 4, 3) := by decide +kernel
theorem dX7_isRight_133 : decode cX7_isRight 133 = .ok (.iconst 0, 1) := by decide +kernel
theorem dX7_isRight_134 : decode cX7_isRight 134 = .ok (.ireturn, 1) := by decide +kernel
theorem dX7_isRight_135 : decode cX7_isRight 135 = .ok (.aload_n 2, 1) := by decide +kernel
theorem dX7_isRight_136 : decode cX7_isRight 136 = .ok (.iload_n 3, 1) := by decide +kernel
theorem dX7_isRight_137 : decode cX7_isRight 137 = .ok (.iload 4, 2) := by decide +kernel
theorem dX7_isRight_139 : decode cX7_isRight 139 = .ok (.invokevirtual 67, 3) := by decide +kernel
theorem dX7_isRight_142 : decode cX7_isRight 142 = .ok (.ireturn, 1) := by decide +kernel
theorem dX7_isRight_143 : decode cX7_isRight 143 = .ok (.iload 5, 2) := by decide +kernel
theorem dX7_isRight_145 : decode cX7_isRight 145 = .ok (.invokestatic 58, 3) := by decide +kernel
theorem dX7_isRight_148 : decode cX7_isRight 148 = .ok (.ifCond .eq 14, 3) := by decide +kernel
theorem dX7_isRight_151 : decode cX7_isRight 151 = .ok (.aload_n 2, 1) := by decide +kernel
theorem dX7_isRight_152 : decode cX7_isRight 152 = .ok (.invokevirtual 71, 3) := by decide +kernel
theorem dX7_isRight_155 : decode cX7_isRight 155 = .ok (.ifCond .eq 7, 3) := by decide +kernel
theorem dX7_isRight_158 : decode cX7_isRight 158 = .ok (.iconst 1, 1) := by decide +kernel
theorem dX7_isRight_159 : decode cX7_isRight 159 = .ok (.goto 4, 3) := by decide +kernel
theorem dX7_isRight_162 : decode cX7_isRight 162 = .ok (.iconst 0, 1) := by decide +kernel
theorem dX7_isRight_163 : decode cX7_isRight 163 = .ok (.ireturn, 1) := by decide +kernel
theorem dX7_isRight_164 : decode cX7_isRight 164 = .ok (.aload_n 2, 1) := by decide +kernel
theorem dX7_isRight_165 : decode cX7_isRight 165 = .ok (.iload_n 3, 1) := by decide +kernel
theorem dX7_isRight_166 : decode cX7_isRight 166 = .ok (.invokevirtual 74, 3) := by decide +kernel
theorem dX7_isRight_169 : decode cX7_isRight 169 = .ok (.ifCond .eq 15, 3) := by decide +kernel
theorem dX7_isRight_172 : decode cX7_isRight 172 = .ok (.iload 4, 2) := by decide +kernel
theorem dX7_isRight_174 : decode cX7_isRight 174 = .ok (.invokestatic 58, 3) := by decide +kernel
theorem dX7_isRight_177 : decode cX7_isRight 177 = .ok (.ifCond .eq 7, 3) := by decide +kernel
theorem dX7_isRight_180 : decode cX7_isRight 180 = .ok (.iconst 1, 1) := by decide +kernel
theorem dX7_isRight_181 : decode cX7_isRight 181 = .ok (.goto 4, 3) := by decide +kernel
theorem dX7_isRight_184 : decode cX7_isRight 184 = .ok (.iconst 0, 1) := by decide +kernel
theorem dX7_isRight_185 : decode cX7_isRight 185 = .ok (.ireturn, 1) := by decide +kernel
theorem dX7_isRight_186 : decode cX7_isRight 186 = .ok (.aload_n 2, 1) := by decide +kernel
theorem dX7_isRight_187 : decode cX7_isRight 187 = .ok (.iload_n 3, 1) := by decide +kernel
theorem dX7_isRight_188 : decode cX7_isRight 188 = .ok (.invokevirtual 77, 3) := by decide +kernel
theorem dX7_isRight_191 : decode cX7_isRight 191 = .ok (.ireturn, 1) := by decide +kernel
theorem dX7_isRight_192 : decode cX7_isRight 192 = .ok (.iload 6, 2) := by decide +kernel
theorem dX7_isRight_194 : decode cX7_isRight 194 = .ok (.iconst 1, 1) := by decide +kernel
theorem dX7_isRight_195 : decode cX7_isRight 195 = .ok (.if_icmp .lt 27, 3) := by decide +kernel
theorem dX7_isRight_198 : decode cX7_isRight 198 = .ok (.iload 6, 2) := by decide +kernel
theorem dX7_isRight_200 : decode cX7_isRight 200 = .ok (.bipush 60, 2) := by decide +kernel
theorem dX7_isRight_202 : decode cX7_isRight 202 = .ok (.if_icmp .gt 20, 3) := by decide +kernel
theorem dX7_isRight_205 : decode cX7_isRight 205 = .ok (.iload 6, 2) := by decide +kernel
theorem dX7_isRight_207 : decode cX7_isRight 207 = .ok (.sipush 999, 3) := by decide +kernel
theorem dX7_isRight_210 : decode cX7_isRight 210 = .ok (.aload_n 2, 1) := by decide +kernel
theorem dX7_isRight_211 : decode cX7_isRight 211 = .ok (.invokevirtual 80, 3) := by decide +kernel
theorem dX7_isRight_214 : decode cX7_isRight 214 = .ok (.isub, 1) := by decide +kernel
theorem dX7_isRight_215 : decode cX7_isRight 215 = .ok (.if_icmp .gt 7, 3) := by decide +kernel
theorem dX7_isRight_218 : decode cX7_isRight 218 = .ok (.iconst 1, 1) := by decide +kernel
theorem dX7_isRight_219 : decode cX7_isRight 219 = .ok (.goto 4, 3) := by decide +kernel
theorem dX7_isRight_222 : decode cX7_isRight 222 = .ok (.iconst 0, 1) := by decide +kernel
theorem dX7_isRight_223 : decode cX7_isRight 223 = .ok (.ireturn, 1) := by decide +kernel
theorem dX7_comes_0 : decode cX7_comes 0 = .ok (.aload_n 0, 1) := by decide +kernel
theorem dX7_comes_1 : decode cX7_comes 1 = .ok (.iload_n 1, 1) := by decide +kernel
theorem dX7_comes_2 : decode cX7_comes 2 = .ok (.iconst 1, 1) := by decide +kernel
theorem dX7_comes_3 : decode cX7_comes 3 = .ok (.iadd, 1) := by decide +kernel
theorem dX7_comes_4 : decode cX7_comes 4 = .ok (.invokevirtual 52, 3) := by decide +kernel
theorem dX7_comes_7 : decode cX7_comes 7 = .ok (.istore_n 3, 1) := by decide +kernel
theorem dX7_comes_8 : decode cX7_comes 8 = .ok (.aload_n 0, 1) := by decide +kernel
theorem dX7_comes_9 : decode cX7_comes 9 = .ok (.iload_n 1, 1) := by decide +kernel
theorem dX7_comes_10 : decode cX7_comes 10 = .ok (.iconst 2, 1) := by decide +kernel
theorem dX7_comes_11 : decode cX7_comes 11 = .ok (.iadd, 1) := by decide +kernel
theorem dX7_comes_12 : decode cX7_comes 12 = .ok (.invokevirtual 52, 3) := by decide +kernel
theorem dX7_comes_15 : decode cX7_comes 15 = .ok (.istore 4, 2) := by decide +kernel
theorem dX7_comes_17 : decode cX7_comes 17 = .ok (.aload_n 0, 1) := by decide +kernel
theorem dX7_comes_18 : decode cX7_comes 18 = .ok (.iload_n 1, 1) := by decide +kernel
theorem dX7_comes_19 : decode cX7_comes 19 = .ok (.invokevirtual 41, 3) := by decide +kernel
theorem dX7_comes_22 : decode cX7_comes 22 = .ok (.tableswitch 141 103 115 #[123, 84, 141, 141, 66, 101, 141, 141, 141, 141, 141, 141, 133], 66) := by decide +kernel
theorem dX7_comes_88 : decode cX7_comes 88 = .ok (.aload_n 2, 1) := by decide +kernel
theorem dX7_comes_89 : decode cX7_comes 89 = .ok (.iload_n 3, 1) := by decide +kernel
theorem dX7_comes_90 : decode cX7_comes 90 = .ok (.iload 4, 2) := by decide +kernel
theorem dX7_comes_92 : decode cX7_comes 92 = .ok (.aload_n 0, 1) := by decide +kernel
theorem dX7_comes_93 : decode cX7_comes 93 = .ok (.iload_n 1, 1) := by decide +kernel
theorem dX7_comes_94 : decode cX7_comes 94 = .ok (.iconst 3, 1) := by decide +kernel
theorem dX7_comes_95 : decode cX7_comes 95 = .ok (.iadd, 1) := by decide +kernel
theorem dX7_comes_96 : decode cX7_comes 96 = .ok (.invokevirtual 52, 3) := by decide +kernel
theorem dX7_comes_99 : decode cX7_comes 99 = .ok (.invokevirtual 83, 3) := by decide +kernel
theorem dX7_comes_102 : decode cX7_comes 102 = .ok (.pop, 1) := by decide +kernel
theorem dX7_comes_103 : decode cX7_comes 103 = .ok (.goto 72, 3) := by decide +kernel
theorem dX7_comes_106 : decode cX7_comes 106 = .ok (.aload_n 2, 1) := by decide +kernel
theorem dX7_comes_107 : decode cX7_comes 107 = .ok (.iload_n 3, 1) := by decide +kernel
theorem dX7_comes_108 : decode cX7_comes 108 = .ok (.iload 4, 2) := by decide +kernel
theorem dX7_comes_110 : decode cX7_comes 110 = .ok (.aload_n 0, 1) := by decide +kernel
theorem dX7_comes_111 : decode cX7_comes 111 = .ok (.iload_n 1, 1) := by decide +kernel
theorem dX7_comes_112 : decode cX7_comes 112 = .ok (.iconst 3, 1) := by decide +kernel
theorem dX7_comes_113 : decode cX7_comes 113 = .ok (.iadd, 1) := by decide +kernel
theorem dX7_comes_114 : decode cX7_comes 114 = .ok (.invokevirtual 55, 3) := by decide +kernel
theorem dX7_comes_117 : decode cX7_comes 117 = .ok (.invokevirtual 87, 3) := by decide +kernel
theorem dX7_comes_120 : decode cX7_comes 120 = .ok (.goto 55, 3) := by decide +kernel
theorem dX7_comes_123 : decode cX7_comes 123 = .ok (.aload_n 2, 1) := by decide +kernel
theorem dX7_comes_124 : decode cX7_comes 124 = .ok (.aload_n 0, 1) := by decide +kernel
theorem dX7_comes_125 : decode cX7_comes 125 = .ok (.iload_n 1, 1) := by decide +kernel
theorem dX7_comes_126 : decode cX7_comes 126 = .ok (.iconst 3, 1) := by decide +kernel
theorem dX7_comes_127 : decode cX7_comes 127 = .ok (.iadd, 1) := by decide +kernel
theorem dX7_comes_128 : decode cX7_comes 128 = .ok (.invokevirtual 52, 3) := by decide +kernel
theorem dX7_comes_131 : decode cX7_comes 131 = .ok (.aload_n 0, 1) := by decide +kernel
theorem dX7_comes_132 : decode cX7_comes 132 = .ok (.iload_n 1, 1) := by decide +kernel
theorem dX7_comes_133 : decode cX7_comes 133 = .ok (.iconst 1, 1) := by decide +kernel
theorem dX7_comes_134 : decode cX7_comes 134 = .ok (.iadd, 1) := by decide +kernel
theorem dX7_comes_135 : decode cX7_comes 135 = .ok (.invokevirtual 55, 3) := by decide +kernel
theorem dX7_comes_138 : decode cX7_comes 138 = .ok (.invokevirtual 91, 3) := by decide +kernel
theorem dX7_comes_141 : decode cX7_comes 141 = .ok (.pop, 1) := by decide +kernel
theorem dX7_comes_142 : decode cX7_comes 142 = .ok (.goto 33, 3) := by decide +kernel
theorem dX7_comes_145 : decode cX7_comes 145 = .ok (.aload_n 2, 1) := by decide +kernel
theorem dX7_comes_146 : decode cX7_comes 146 = .ok (.iload_n 3, 1) := by decide +kernel
theorem dX7_comes_147 : decode cX7_comes 147 = .ok (.iload 4, 2) := by decide +kernel
theorem dX7_comes_149 : decode cX7_comes 149 = .ok (.invokevirtual 94, 3) := by decide +kernel
theorem dX7_comes_152 : decode cX7_comes 152 = .ok (.goto 23, 3) := by decide +kernel
theorem dX7_comes_155 : decode cX7_comes 155 = .ok (.aload_n 2, 1) := by decide +kernel
theorem dX7_comes_156 : decode cX7_comes 156 = .ok (.iload_n 3, 1) := by decide +kernel
theorem dX7_comes_157 : decode cX7_comes 157 = .ok (.invokevirtual 98, 3) := by decide +kernel
theorem dX7_comes_160 : decode cX7_comes 160 = .ok (.goto 15, 3) := by decide +kernel
theorem dX7_comes_163 : decode cX7_comes 163 = .ok (.aload_n 2, 1) := by decide +kernel
theorem dX7_comes_164 : decode cX7_comes 164 = .ok (.aload_n 0, 1) := by decide +kernel
theorem dX7_comes_165 : decode cX7_comes 165 = .ok (.iload_n 1, 1) := by decide +kernel
theorem dX7_comes_166 : decode cX7_comes 166 = .ok (.iconst 1, 1) := by decide +kernel
theorem dX7_comes_167 : decode cX7_comes 167 = .ok (.iadd, 1) := by decide +kernel
theorem dX7_comes_168 : decode cX7_comes 168 = .ok (.invokevirtual 55, 3) := by decide +kernel
theorem dX7_comes_171 : decode cX7_comes 171 = .ok (.invokevirtual 102, 3) := by decide +kernel
theorem dX7_comes_174 : decode cX7_comes 174 = .ok (.pop, 1) := by decide +kernel
theorem dX7_comes_175 : decode cX7_comes 175 = .ok (.return_, 1) := by decide +kernel
theorem dX7_sign_0 : decode cX7_sign 0 = .ok (.iload_n 1, 1) := by decide +kernel
theorem dX7_sign_1 : decode cX7_sign 1 = .ok (.aload_n 0, 1) := by decide +kernel
theorem dX7_sign_2 : decode cX7_sign 2 = .ok (.getfield 15, 3) := by decide +kernel
theorem dX7_sign_5 : decode cX7_sign 5 = .ok (.if_icmp .ge 14, 3) := by decide +kernel
theorem dX7_sign_8 : decode cX7_sign 8 = .ok (.aload_n 0, 1) := by decide +kernel
theorem dX7_sign_9 : decode cX7_sign 9 = .ok (.getfield 11, 3) := by decide +kernel
theorem dX7_sign_12 : decode cX7_sign 12 = .ok (.iload_n 1, 1) := by decide +kernel
theorem dX7_sign_13 : decode cX7_sign 13 = .ok (.invokestatic 105, 3) := by decide +kernel
theorem dX7_sign_16 : decode cX7_sign 16 = .ok (.goto 4, 3) := by decide +kernel
theorem dX7_sign_19 : decode cX7_sign 19 = .ok (.iconst (-1), 1) := by decide +kernel
theorem dX7_sign_20 : decode cX7_sign 20 = .ok (.ireturn, 1) := by decide +kernel
theorem dX7_isDigit_0 : decode cX7_isDigit 0 = .ok (.aload_n 0, 1) := by decide +kernel
theorem dX7_isDigit_1 : decode cX7_isDigit 1 = .ok (.iload_n 1, 1) := by decide +kernel
theorem dX7_isDigit_2 : decode cX7_isDigit 2 = .ok (.invokevirtual 41, 3) := by decide +kernel
theorem dX7_isDigit_5 : decode cX7_isDigit 5 = .ok (.bipush 48, 2) := by decide +kernel
theorem dX7_isDigit_7 : decode cX7_isDigit 7 = .ok (.if_icmp .lt 17, 3) := by decide +kernel
theorem dX7_isDigit_10 : decode cX7_isDigit 10 = .ok (.aload_n 0, 1) := by decide +kernel
theorem dX7_isDigit_11 : decode cX7_isDigit 11 = .ok (.iload_n 1, 1) := by decide +kernel
theorem dX7_isDigit_12 : decode cX7_isDigit 12 = .ok (.invokevirtual 41, 3) := by decide +kernel
theorem dX7_isDigit_15 : decode cX7_isDigit 15 = .ok (.bipush 57, 2) := by decide +kernel
theorem dX7_isDigit_17 : decode cX7_isDigit 17 = .ok (.if_icmp .gt 7, 3) := by decide +kernel
theorem dX7_isDigit_20 : decode cX7_isDigit 20 = .ok (.iconst 1, 1) := by decide +kernel
theorem dX7_isDigit_21 : decode cX7_isDigit 21 = .ok (.goto 4, 3) := by decide +kernel
theorem dX7_isDigit_24 : decode cX7_isDigit 24 = .ok (.iconst 0, 1) := by decide +kernel
theorem dX7_isDigit_25 : decode cX7_isDigit 25 = .ok (.ireturn, 1) := by decide +kernel
theorem dX7_digit_0 : decode cX7_digit 0 = .ok (.aload_n 0, 1) := by decide +kernel
theorem dX7_digit_1 : decode cX7_digit 1 = .ok (.iload_n 1, 1) := by decide +kernel
theorem dX7_digit_2 : decode cX7_digit 2 = .ok (.invokevirtual 41, 3) := by decide +kernel
theorem dX7_digit_5 : decode cX7_digit 5 = .ok (.bipush 48, 2) := by decide +kernel
theorem dX7_digit_7 : decode cX7_digit 7 = .ok (.isub, 1) := by decide +kernel
theorem dX7_digit_8 : decode cX7_digit 8 = .ok (.ireturn, 1) := by decide +kernel
theorem dX7_twoDigits_0 : decode cX7_twoDigits 0 = .ok (.bipush 10, 2) := by decide +kernel
theorem dX7_twoDigits_2 : decode cX7_twoDigits 2 = .ok (.aload_n 0, 1) := by decide +kernel
theorem dX7_twoDigits_3 : decode cX7_twoDigits 3 = .ok (.iload_n 1, 1) := by decide +kernel
theorem dX7_twoDigits_4 : decode cX7_twoDigits 4 = .ok (.invokevirtual 52, 3) := by decide +kernel
theorem dX7_twoDigits_7 : decode cX7_twoDigits 7 = .ok (.imul, 1) := by decide +kernel
theorem dX7_twoDigits_8 : decode cX7_twoDigits 8 = .ok (.aload_n 0, 1) := by decide +kernel
theorem dX7_twoDigits_9 : decode cX7_twoDigits 9 = .ok (.iload_n 1, 1) := by decide +kernel
theorem dX7_twoDigits_10 : decode cX7_twoDigits 10 = .ok (.iconst 1, 1) := by decide +kernel
theorem dX7_twoDigits_11 : decode cX7_twoDigits 11 = .ok (.iadd, 1) := by decide +kernel
theorem dX7_twoDigits_12 : decode cX7_twoDigits 12 = .ok (.invokevirtual 52, 3) := by decide +kernel
theorem dX7_twoDigits_15 : decode cX7_twoDigits 15 = .ok (.iadd, 1) := by decide +kernel
theorem dX7_twoDigits_16 : decode cX7_twoDigits 16 = .ok (.ireturn, 1) := by decide +kernel
theorem dX8_init_0 : decode cX8_init 0 = .ok (.aload_n 0, 1) := by decide +kernel
theorem dX8_init_1 : decode cX8_init 1 = .ok (.invokespecial 1, 3) := by decide +kernel
theorem dX8_init_4 : decode cX8_init 4 = .ok (.aload_n 0, 1) := by decide +kernel
theorem dX8_init_5 : decode cX8_init 5 = .ok (.new 7, 3) := by decide +kernel
theorem dX8_init_8 : decode cX8_init 8 = .ok (.dup, 1) := by decide +kernel
theorem dX8_init_9 : decode cX8_init 9 = .ok (.invokespecial 9, 3) := by decide +kernel
theorem dX8_init_12 : decode cX8_init 12 = .ok (.putfield 10, 3) := by decide +kernel
theorem dX8_init_15 : decode cX8_init 15 = .ok (.aload_n 0, 1) := by decide +kernel
theorem dX8_init_16 : decode cX8_init 16 = .ok (.new 7, 3) := by decide +kernel
theorem dX8_init_19 : decode cX8_init 19 = .ok (.dup, 1) := by decide +kernel
theorem dX8_init_20 : decode cX8_init 20 = .ok (.invokespecial 9, 3) := by decide +kernel
theorem dX8_init_23 : decode cX8_init 23 = .ok (.putfield 16, 3) := by decide +kernel
theorem dX8_init_26 : decode cX8_init 26 = .ok (.aload_n 0, 1) := by decide +kernel
theorem dX8_init_27 : decode cX8_init 27 = .ok (.new 19, 3) := by decide +kernel
theorem dX8_init_30 : decode cX8_init 30 = .ok (.dup, 1) := by decide +kernel
theorem dX8_init_31 : decode cX8_init 31 = .ok (.invokespecial 21, 3) := by decide +kernel
theorem dX8_init_34 : decode cX8_init 34 = .ok (.putfield 22, 3) := by decide +kernel
theorem dX8_init_37 : decode cX8_init 37 = .ok (.aload_n 0, 1) := by decide +kernel
theorem dX8_init_38 : decode cX8_init 38 = .ok (.new 26, 3) := by decide +kernel
theorem dX8_init_41 : decode cX8_init 41 = .ok (.dup, 1) := by decide +kernel
theorem dX8_init_42 : decode cX8_init 42 = .ok (.invokespecial 28, 3) := by decide +kernel
theorem dX8_init_45 : decode cX8_init 45 = .ok (.putfield 29, 3) := by decide +kernel
theorem dX8_init_48 : decode cX8_init 48 = .ok (.aload_n 0, 1) := by decide +kernel
theorem dX8_init_49 : decode cX8_init 49 = .ok (.new 33, 3) := by decide +kernel
theorem dX8_init_52 : decode cX8_init 52 = .ok (.dup, 1) := by decide +kernel
theorem dX8_init_53 : decode cX8_init 53 = .ok (.invokespecial 35, 3) := by decide +kernel
theorem dX8_init_56 : decode cX8_init 56 = .ok (.putfield 36, 3) := by decide +kernel
theorem dX8_init_59 : decode cX8_init 59 = .ok (.aload_n 0, 1) := by decide +kernel
theorem dX8_init_60 : decode cX8_init 60 = .ok (.bipush 7, 2) := by decide +kernel
theorem dX8_init_62 : decode cX8_init 62 = .ok (.newarray .int, 2) := by decide +kernel
theorem dX8_init_64 : decode cX8_init 64 = .ok (.putfield 40, 3) := by decide +kernel
theorem dX8_init_67 : decode cX8_init 67 = .ok (.new 7, 3) := by decide +kernel
theorem dX8_init_70 : decode cX8_init 70 = .ok (.dup, 1) := by decide +kernel
theorem dX8_init_71 : decode cX8_init 71 = .ok (.invokespecial 9, 3) := by decide +kernel
theorem dX8_init_74 : decode cX8_init 74 = .ok (.astore_n 1, 1) := by decide +kernel
theorem dX8_init_75 : decode cX8_init 75 = .ok (.aload_n 0, 1) := by decide +kernel
theorem dX8_init_76 : decode cX8_init 76 = .ok (.aload_n 1, 1) := by decide +kernel
theorem dX8_init_77 : decode cX8_init 77 = .ok (.putfield 44, 3) := by decide +kernel
theorem dX8_init_80 : decode cX8_init 80 = .ok (.aload_n 0, 1) := by decide +kernel
theorem dX8_init_81 : decode cX8_init 81 = .ok (.new 47, 3) := by decide +kernel
theorem dX8_init_84 : decode cX8_init 84 = .ok (.dup, 1) := by decide +kernel
theorem dX8_init_85 : decode cX8_init 85 = .ok (.aload_n 1, 1) := by decide +kernel
theorem dX8_init_86 : decode cX8_init 86 = .ok (.invokespecial 49, 3) := by decide +kernel
theorem dX8_init_89 : decode cX8_init 89 = .ok (.putfield 52, 3) := by decide +kernel
theorem dX8_init_92 : decode cX8_init 92 = .ok (.aload_n 0, 1) := by decide +kernel
theorem dX8_init_93 : decode cX8_init 93 = .ok (.new 56, 3) := by decide +kernel
theorem dX8_init_96 : decode cX8_init 96 = .ok (.dup, 1) := by decide +kernel
theorem dX8_init_97 : decode cX8_init 97 = .ok (.aload_n 1, 1) := by decide +kernel
theorem dX8_init_98 : decode cX8_init 98 = .ok (.invokespecial 58, 3) := by decide +kernel
theorem dX8_init_101 : decode cX8_init 101 = .ok (.putfield 59, 3) := by decide +kernel
theorem dX8_init_104 : decode cX8_init 104 = .ok (.return_, 1) := by decide +kernel
theorem dX8_feed_0 : decode cX8_feed 0 = .ok (.iload_n 1, 1) := by decide +kernel
theorem dX8_feed_1 : decode cX8_feed 1 = .ok (.iconst 0, 1) := by decide +kernel
theorem dX8_feed_2 : decode cX8_feed 2 = .ok (.sipush 255, 3) := by decide +kernel
theorem dX8_feed_5 : decode cX8_feed 5 = .ok (.invokestatic 63, 3) := by decide +kernel
theorem dX8_feed_8 : decode cX8_feed 8 = .ok (.aload_n 0, 1) := by decide +kernel
theorem dX8_feed_9 : decode cX8_feed 9 = .ok (.getfield 29, 3) := by decide +kernel
theorem dX8_feed_12 : decode cX8_feed 12 = .ok (.invokevirtual 67, 3) := by decide +kernel
theorem dX8_feed_15 : decode cX8_feed 15 = .ok (.ifCond .eq 8, 3) := by decide +kernel
theorem dX8_feed_18 : decode cX8_feed 18 = .ok (.bipush (-6), 2) := by decide +kernel
theorem dX8_feed_20 : decode cX8_feed 20 = .ok (.goto 4, 3) := by decide +kernel
theorem dX8_feed_23 : decode cX8_feed 23 = .ok (.iconst 0, 1) := by decide +kernel
theorem dX8_feed_24 : decode cX8_feed 24 = .ok (.iconst 0, 1) := by decide +kernel
theorem dX8_feed_25 : decode cX8_feed 25 = .ok (.invokestatic 71, 3) := by decide +kernel
theorem dX8_feed_28 : decode cX8_feed 28 = .ok (.istore_n 2, 1) := by decide +kernel
theorem dX8_feed_29 : decode cX8_feed 29 = .ok (.iload_n 2, 1) := by decide +kernel
theorem dX8_feed_30 : decode cX8_feed 30 = .ok (.ifCond .eq 11, 3) := by decide +kernel
theorem dX8_feed_33 : decode cX8_feed 33 = .ok (.aload_n 0, 1) := by decide +kernel
theorem dX8_feed_34 : decode cX8_feed 34 = .ok (.iload_n 2, 1) := by decide +kernel
theorem dX8_feed_35 : decode cX8_feed 35 = .ok (.invokevirtual 74, 3) := by decide +kernel
theorem dX8_feed_38 : decode cX8_feed 38 = .ok (.goto 11, 3) := by decide +kernel
theorem dX8_feed_41 : decode cX8_feed 41 = .ok (.aload_n 0, 1) := by decide +kernel
theorem dX8_feed_42 : decode cX8_feed 42 = .ok (.getfield 29, 3) := by decide +kernel
theorem dX8_feed_45 : decode cX8_feed 45 = .ok (.iload_n 1, 1) := by decide +kernel
theorem dX8_feed_46 : decode cX8_feed 46 = .ok (.invokevirtual 78, 3) := by decide +kernel
theorem dX8_feed_49 : decode cX8_feed 49 = .ok (.ireturn, 1) := by decide +kernel
theorem dX8_land_0 : decode cX8_land 0 = .ok (.aload_n 0, 1) := by decide +kernel
theorem dX8_land_1 : decode cX8_land 1 = .ok (.getfield 10, 3) := by decide +kernel
theorem dX8_land_4 : decode cX8_land 4 = .ok (.aload_n 0, 1) := by decide +kernel
theorem dX8_land_5 : decode cX8_land 5 = .ok (.getfield 44, 3) := by decide +kernel
theorem dX8_land_8 : decode cX8_land 8 = .ok (.invokevirtual 81, 3) := by decide +kernel
theorem dX8_land_11 : decode cX8_land 11 = .ok (.aload_n 0, 1) := by decide +kernel
theorem dX8_land_12 : decode cX8_land 12 = .ok (.getfield 29, 3) := by decide +kernel
theorem dX8_land_15 : decode cX8_land 15 = .ok (.aload_n 0, 1) := by decide +kernel
theorem dX8_land_16 : decode cX8_land 16 = .ok (.getfield 10, 3) := by decide +kernel
theorem dX8_land_19 : decode cX8_land 19 = .ok (.invokevirtual 84, 3) := by decide +kernel
theorem dX8_land_22 : decode cX8_land 22 = .ok (.istore_n 1, 1) := by decide +kernel
theorem dX8_land_23 : decode cX8_land 23 = .ok (.aload_n 0, 1) := by decide +kernel
theorem dX8_land_24 : decode cX8_land 24 = .ok (.getfield 29, 3) := by decide +kernel
theorem dX8_land_27 : decode cX8_land 27 = .ok (.invokevirtual 88, 3) := by decide +kernel
theorem dX8_land_30 : decode cX8_land 30 = .ok (.iload_n 1, 1) := by decide +kernel
theorem dX8_land_31 : decode cX8_land 31 = .ok (.ifCond .le 21, 3) := by decide +kernel
theorem dX8_land_34 : decode cX8_land 34 = .ok (.aload_n 0, 1) := by decide +kernel
theorem dX8_land_35 : decode cX8_land 35 = .ok (.getfield 44, 3) := by decide +kernel
theorem dX8_land_38 : decode cX8_land 38 = .ok (.aload_n 0, 1) := by decide +kernel
theorem dX8_land_39 : decode cX8_land 39 = .ok (.getfield 10, 3) := by decide +kernel
theorem dX8_land_42 : decode cX8_land 42 = .ok (.invokevirtual 81, 3) := by decide +kernel
theorem dX8_land_45 : decode cX8_land 45 = .ok (.aload_n 0, 1) := by decide +kernel
theorem dX8_land_46 : decode cX8_land 46 = .ok (.getfield 22, 3) := by decide +kernel
theorem dX8_land_49 : decode cX8_land 49 = .ok (.invokevirtual 91, 3) := by decide +kernel
theorem dX8_land_52 : decode cX8_land 52 = .ok (.iload_n 1, 1) := by decide +kernel
theorem dX8_land_53 : decode cX8_land 53 = .ok (.ireturn, 1) := by decide +kernel
theorem dX8_keeperOf_0 : decode cX8_keeperOf 0 = .ok (.aload_n 0, 1) := by decide +kernel
theorem dX8_keeperOf_1 : decode cX8_keeperOf 1 = .ok (.iload_n 1, 1) := by decide +kernel
theorem dX8_keeperOf_2 : decode cX8_keeperOf 2 = .ok (.invokevirtual 94, 3) := by decide +kernel
theorem dX8_keeperOf_5 : decode cX8_keeperOf 5 = .ok (.iload_n 2, 1) := by decide +kernel
theorem dX8_keeperOf_6 : decode cX8_keeperOf 6 = .ok (.iconst 5, 1) := by decide +kernel
theorem dX8_keeperOf_7 : decode cX8_keeperOf 7 = .ok (.invokestatic 97, 3) := by decide +kernel
theorem dX8_keeperOf_10 : decode cX8_keeperOf 10 = .ok (.iconst 0, 1) := by decide +kernel
theorem dX8_keeperOf_11 : decode cX8_keeperOf 11 = .ok (.invokestatic 71, 3) := by decide +kernel
theorem dX8_keeperOf_14 : decode cX8_keeperOf 14 = .ok (.istore_n 3, 1) := by decide +kernel
theorem dX8_keeperOf_15 : decode cX8_keeperOf 15 = .ok (.iload_n 3, 1) := by decide +kernel
theorem dX8_keeperOf_16 : decode cX8_keeperOf 16 = .ok (.ifCond .eq 9, 3) := by decide +kernel
theorem dX8_keeperOf_19 : decode cX8_keeperOf 19 = .ok (.aload_n 0, 1) := by decide +kernel
theorem dX8_keeperOf_20 : decode cX8_keeperOf 20 = .ok (.iload_n 3, 1) := by decide +kernel
theorem dX8_keeperOf_21 : decode cX8_keeperOf 21 = .ok (.invokevirtual 74, 3) := by decide +kernel
theorem dX8_keeperOf_24 : decode cX8_keeperOf 24 = .ok (.ireturn, 1) := by decide +kernel
theorem dX8_keeperOf_25 : decode cX8_keeperOf 25 = .ok (.iload_n 2, 1) := by decide +kernel
theorem dX8_keeperOf_26 : decode cX8_keeperOf 26 = .ok (.tableswitch 79 0 4 #[34, 43, 52, 61, 70], 34) := by decide +kernel
theorem dX8_keeperOf_60 : decode cX8_keeperOf 60 = .ok (.aload_n 0, 1) := by decide +kernel
theorem dX8_keeperOf_61 : decode cX8_keeperOf 61 = .ok (.getfield 44, 3) := by decide +kernel
theorem dX8_keeperOf_64 : decode cX8_keeperOf 64 = .ok (.iload_n 1, 1) := by decide +kernel
theorem dX8_keeperOf_65 : decode cX8_keeperOf 65 = .ok (.invokevirtual 101, 3) := by decide +kernel
theorem dX8_keeperOf_68 : decode cX8_keeperOf 68 = .ok (.ireturn, 1) := by decide +kernel
theorem dX8_keeperOf_69 : decode cX8_keeperOf 69 = .ok (.aload_n 0, 1) := by decide +kernel
theorem dX8_keeperOf_70 : decode cX8_keeperOf 70 = .ok (.getfield 44, 3) := by decide +kernel
theorem dX8_keeperOf_73 : decode cX8_keeperOf 73 = .ok (.iload_n 1, 1) := by decide +kernel
theorem dX8_keeperOf_74 : decode cX8_keeperOf 74 = .ok (.invokevirtual 104, 3) := by decide +kernel
theorem dX8_keeperOf_77 : decode cX8_keeperOf 77 = .ok (.ireturn, 1) := by decide +kernel
theorem dX8_keeperOf_78 : decode cX8_keeperOf 78 = .ok (.aload_n 0, 1) := by decide +kernel
theorem dX8_keeperOf_79 : decode cX8_keeperOf 79 = .ok (.getfield 44, 3) := by decide +kernel
theorem dX8_keeperOf_82 : decode cX8_keeperOf 82 = .ok (.iload_n 1, 1) := by decide +kernel
theorem dX8_keeperOf_83 : decode cX8_keeperOf 83 = .ok (.invokevirtual 107, 3) := by decide +kernel
theorem dX8_keeperOf_86 : decode cX8_keeperOf 86 = .ok (.ireturn, 1) := by decide +kernel
theorem dX8_keeperOf_87 : decode cX8_keeperOf 87 = .ok (.aload_n 0, 1) := by decide +kernel
theorem dX8_keeperOf_88 : decode cX8_keeperOf 88 = .ok (.getfield 44, 3) := by decide +kernel
theorem dX8_keeperOf_91 : decode cX8_keeperOf 91 = .ok (.iload_n 1, 1) := by decide +kernel
theorem dX8_keeperOf_92 : decode cX8_keeperOf 92 = .ok (.invokevirtual 110, 3) := by decide +kernel
theorem dX8_keeperOf_95 : decode cX8_keeperOf 95 = .ok (.ireturn, 1) := by decide +kernel
theorem dX8_keeperOf_96 : decode cX8_keeperOf 96 = .ok (.aload_n 0, 1) := by decide +kernel
theorem dX8_keeperOf_97 : decode cX8_keeperOf 97 = .ok (.getfield 44, 3) := by decide +kernel
theorem dX8_keeperOf_100 : decode cX8_keeperOf 100 = .ok (.iload_n 1, 1) := by decide +kernel
theorem dX8_keeperOf_101 : decode cX8_keeperOf 101 = .ok (.invokevirtual 113, 3) := by decide +kernel
theorem dX8_keeperOf_104 : decode cX8_keeperOf 104 = .ok (.ireturn, 1) := by decide +kernel
theorem dX8_keeperOf_105 : decode cX8_keeperOf 105 = .ok (.aload_n 0, 1) := by decide +kernel
theorem dX8_keeperOf_106 : decode cX8_keeperOf 106 = .ok (.getfield 44, 3) := by decide +kernel
theorem dX8_keeperOf_109 : decode cX8_keeperOf 109 = .ok (.iload_n 1, 1) := by decide +kernel
theorem dX8_keeperOf_110 : decode cX8_keeperOf 110 = .ok (.invokevirtual 116, 3) := by decide +kernel
theorem dX8_keeperOf_113 : decode cX8_keeperOf 113 = .ok (.ireturn, 1) := by decide +kernel
theorem dX8_letterOf_0 : decode cX8_letterOf 0 = .ok (.aload_n 0, 1) := by decide +kernel
theorem dX8_letterOf_1 : decode cX8_letterOf 1 = .ok (.iload_n 1, 1) := by decide +kernel
theorem dX8_letterOf_2 : decode cX8_letterOf 2 = .ok (.invokevirtual 119, 3) := by decide +kernel
theorem dX8_letterOf_5 : decode cX8_letterOf 5 = .ok (.iload_n 2, 1) := by decide +kernel
theorem dX8_letterOf_6 : decode cX8_letterOf 6 = .ok (.iconst 3, 1) := by decide +kernel
theorem dX8_letterOf_7 : decode cX8_letterOf 7 = .ok (.invokestatic 97, 3) := by decide +kernel
theorem dX8_letterOf_10 : decode cX8_letterOf 10 = .ok (.iconst 0, 1) := by decide +kernel
theorem dX8_letterOf_11 : decode cX8_letterOf 11 = .ok (.invokestatic 71, 3) := by decide +kernel
theorem dX8_letterOf_14 : decode cX8_letterOf 14 = .ok (.istore_n 3, 1) := by decide +kernel
theorem dX8_letterOf_15 : decode cX8_letterOf 15 = .ok (.iload_n 3, 1) := by decide +kernel
theorem dX8_letterOf_16 : decode cX8_letterOf 16 = .ok (.ifCond .eq 9, 3) := by decide +kernel
theorem dX8_letterOf_19 : decode cX8_letterOf 19 = .ok (.aload_n 0, 1) := by decide +kernel
theorem dX8_letterOf_20 : decode cX8_letterOf 20 = .ok (.iload_n 3, 1) := by decide +kernel
theorem dX8_letterOf_21 : decode cX8_letterOf 21 = .ok (.invokevirtual 74, 3) := by decide +kernel
theorem dX8_letterOf_24 : decode cX8_letterOf 24 = .ok (.ireturn, 1) := by decide +kernel
theorem dX8_letterOf_25 : decode cX8_letterOf 25 = .ok (.iload_n 2, 1) := by decide +kernel
theorem dX8_letterOf_26 : decode cX8_letterOf 26 = .ok (.tableswitch 61 0 2 #[26, 35, 44], 26) := by decide +kernel
theorem dX8_letterOf_52 : decode cX8_letterOf 52 = .ok (.aload_n 0, 1) := by decide +kernel
theorem dX8_letterOf_53 : decode cX8_letterOf 53 = .ok (.getfield 44, 3) := by decide +kernel
theorem dX8_letterOf_56 : decode cX8_letterOf 56 = .ok (.iload_n 1, 1) := by decide +kernel
theorem dX8_letterOf_57 : decode cX8_letterOf 57 = .ok (.invokevirtual 122, 3) := by decide +kernel
theorem dX8_letterOf_60 : decode cX8_letterOf 60 = .ok (.ireturn, 1) := by decide +kernel
theorem dX8_letterOf_61 : decode cX8_letterOf 61 = .ok (.aload_n 0, 1) := by decide +kernel
theorem dX8_letterOf_62 : decode cX8_letterOf 62 = .ok (.getfield 44, 3) := by decide +kernel
theorem dX8_letterOf_65 : decode cX8_letterOf 65 = .ok (.iload_n 1, 1) := by decide +kernel
theorem dX8_letterOf_66 : decode cX8_letterOf 66 = .ok (.invokevirtual 125, 3) := by decide +kernel
theorem dX8_letterOf_69 : decode cX8_letterOf 69 = .ok (.ireturn, 1) := by decide +kernel
theorem dX8_letterOf_70 : decode cX8_letterOf 70 = .ok (.aload_n 0, 1) := by decide +kernel
theorem dX8_letterOf_71 : decode cX8_letterOf 71 = .ok (.getfield 44, 3) := by decide +kernel
theorem dX8_letterOf_74 : decode cX8_letterOf 74 = .ok (.iload_n 1, 1) := by decide +kernel
theorem dX8_letterOf_75 : decode cX8_letterOf 75 = .ok (.invokevirtual 128, 3) := by decide +kernel
theorem dX8_letterOf_78 : decode cX8_letterOf 78 = .ok (.ifCond .eq 7, 3) := by decide +kernel
theorem dX8_letterOf_81 : decode cX8_letterOf 81 = .ok (.iconst 1, 1) := by decide +kernel
theorem dX8_letterOf_82 : decode cX8_letterOf 82 = .ok (.goto 4, 3) := by decide +kernel
theorem dX8_letterOf_85 : decode cX8_letterOf 85 = .ok (.iconst 0, 1) := by decide +kernel
theorem dX8_letterOf_86 : decode cX8_letterOf 86 = .ok (.ireturn, 1) := by decide +kernel
theorem dX8_letterOf_87 : decode cX8_letterOf 87 = .ok (.aload_n 0, 1) := by decide +kernel
theorem dX8_letterOf_88 : decode cX8_letterOf 88 = .ok (.getfield 44, 3) := by decide +kernel
theorem dX8_letterOf_91 : decode cX8_letterOf 91 = .ok (.iload_n 1, 1) := by decide +kernel
theorem dX8_letterOf_92 : decode cX8_letterOf 92 = .ok (.invokevirtual 132, 3) := by decide +kernel
theorem dX8_letterOf_95 : decode cX8_letterOf 95 = .ok (.ireturn, 1) := by decide +kernel
theorem dX8_hate_0 : decode cX8_hate 0 = .ok (.aload_n 0, 1) := by decide +kernel
theorem dX8_hate_1 : decode cX8_hate 1 = .ok (.iload_n 1, 1) := by decide +kernel
theorem dX8_hate_2 : decode cX8_hate 2 = .ok (.iload_n 2, 1) := by decide +kernel
theorem dX8_hate_3 : decode cX8_hate 3 = .ok (.invokevirtual 135, 3) := by decide +kernel
theorem dX8_hate_6 : decode cX8_hate 6 = .ok (.istore_n 3, 1) := by decide +kernel
theorem dX8_hate_7 : decode cX8_hate 7 = .ok (.iload_n 3, 1) := by decide +kernel
theorem dX8_hate_8 : decode cX8_hate 8 = .ok (.ifCond .eq 11, 3) := by decide +kernel
theorem dX8_hate_11 : decode cX8_hate 11 = .ok (.aload_n 0, 1) := by decide +kernel
theorem dX8_hate_12 : decode cX8_hate 12 = .ok (.iload_n 3, 1) := by decide +kernel
theorem dX8_hate_13 : decode cX8_hate 13 = .ok (.invokevirtual 74, 3) := by decide +kernel
theorem dX8_hate_16 : decode cX8_hate 16 = .ok (.goto 12, 3) := by decide +kernel
theorem dX8_hate_19 : decode cX8_hate 19 = .ok (.aload_n 0, 1) := by decide +kernel
theorem dX8_hate_20 : decode cX8_hate 20 = .ok (.getfield 44, 3) := by decide +kernel
theorem dX8_hate_23 : decode cX8_hate 23 = .ok (.iload_n 1, 1) := by decide +kernel
theorem dX8_hate_24 : decode cX8_hate 24 = .ok (.iload_n 2, 1) := by decide +kernel
theorem dX8_hate_25 : decode cX8_hate 25 = .ok (.invokevirtual 138, 3) := by decide +kernel
theorem dX8_hate_28 : decode cX8_hate 28 = .ok (.ireturn, 1) := by decide +kernel
theorem dX8_count_0 : decode cX8_count 0 = .ok (.iload_n 1, 1) := by decide +kernel
theorem dX8_count_1 : decode cX8_count 1 = .ok (.tableswitch 111 0 7 #[47, 55, 63, 71, 79, 87, 95, 103], 47) := by decide +kernel
theorem dX8_count_48 : decode cX8_count 48 = .ok (.aload_n 0, 1) := by decide +kernel
theorem dX8_count_49 : decode cX8_count 49 = .ok (.getfield 44, 3) := by decide +kernel
theorem dX8_count_52 : decode cX8_count 52 = .ok (.invokevirtual 141, 3) := by decide +kernel
theorem dX8_count_55 : decode cX8_count 55 = .ok (.ireturn, 1) := by decide +kernel
theorem dX8_count_56 : decode cX8_count 56 = .ok (.aload_n 0, 1) := by decide +kernel
theorem dX8_count_57 : decode cX8_count 57 = .ok (.getfield 44, 3) := by decide +kernel
theorem dX8_count_60 : decode cX8_count 60 = .ok (.invokevirtual 145, 3) := by decide +kernel
theorem dX8_count_63 : decode cX8_count 63 = .ok (.ireturn, 1) := by decide +kernel
theorem dX8_count_64 : decode cX8_count 64 = .ok (.aload_n 0, 1) := by decide +kernel
theorem dX8_count_65 : decode cX8_count 65 = .ok (.getfield 44, 3) := by decide +kernel
theorem dX8_count_68 : decode cX8_count 68 = .ok (.invokevirtual 148, 3) := by decide +kernel
theorem dX8_count_71 : decode cX8_count 71 = .ok (.ireturn, 1) := by decide +kernel
theorem dX8_count_72 : decode cX8_count 72 = .ok (.aload_n 0, 1) := by decide +kernel
theorem dX8_count_73 : decode cX8_count 73 = .ok (.getfield 44, 3) := by decide +kernel
theorem dX8_count_76 : decode cX8_count 76 = .ok (.invokevirtual 151, 3) := by decide +kernel
theorem dX8_count_79 : decode cX8_count 79 = .ok (.ireturn, 1) := by decide +kernel
theorem dX8_count_80 : decode cX8_count 80 = .ok (.aload_n 0, 1) := by decide +kernel
theorem dX8_count_81 : decode cX8_count 81 = .ok (.getfield 44, 3) := by decide +kernel
theorem dX8_count_84 : decode cX8_count 84 = .ok (.invokevirtual 154, 3) := by decide +kernel
theorem dX8_count_87 : decode cX8_count 87 = .ok (.ireturn, 1) := by decide +kernel
theorem dX8_count_88 : decode cX8_count 88 = .ok (.aload_n 0, 1) := by decide +kernel
theorem dX8_count_89 : decode cX8_count 89 = .ok (.getfield 29, 3) := by decide +kernel
theorem dX8_count_92 : decode cX8_count 92 = .ok (.invokevirtual 157, 3) := by decide +kernel
theorem dX8_count_95 : decode cX8_count 95 = .ok (.ireturn, 1) := by decide +kernel
theorem dX8_count_96 : decode cX8_count 96 = .ok (.aload_n 0, 1) := by decide +kernel
theorem dX8_count_97 : decode cX8_count 97 = .ok (.getfield 36, 3) := by decide +kernel
theorem dX8_count_100 : decode cX8_count 100 = .ok (.invokevirtual 160, 3) := by decide +kernel
theorem dX8_count_103 : decode cX8_count 103 = .ok (.ireturn, 1) := by decide +kernel
theorem dX8_count_104 : decode cX8_count 104 = .ok (.aload_n 0, 1) := by decide +kernel
theorem dX8_count_105 : decode cX8_count 105 = .ok (.getfield 22, 3) := by decide +kernel
theorem dX8_count_108 : decode cX8_count 108 = .ok (.invokevirtual 161, 3) := by decide +kernel
theorem dX8_count_111 : decode cX8_count 111 = .ok (.ireturn, 1) := by decide +kernel
theorem dX8_count_112 : decode cX8_count 112 = .ok (.iload_n 1, 1) := by decide +kernel
theorem dX8_count_113 : decode cX8_count 113 = .ok (.bipush 11, 2) := by decide +kernel
theorem dX8_count_115 : decode cX8_count 115 = .ok (.if_icmp .lt 23, 3) := by decide +kernel
theorem dX8_count_118 : decode cX8_count 118 = .ok (.iload_n 1, 1) := by decide +kernel
theorem dX8_count_119 : decode cX8_count 119 = .ok (.bipush 16, 2) := by decide +kernel
theorem dX8_count_121 : decode cX8_count 121 = .ok (.if_icmp .gt 17, 3) := by decide +kernel
theorem dX8_count_124 : decode cX8_count 124 = .ok (.aload_n 0, 1) := by decide +kernel
theorem dX8_count_125 : decode cX8_count 125 = .ok (.getfield 40, 3) := by decide +kernel
theorem dX8_count_128 : decode cX8_count 128 = .ok (.iload_n 1, 1) := by decide +kernel
theorem dX8_count_129 : decode cX8_count 129 = .ok (.bipush 10, 2) := by decide +kernel
theorem dX8_count_131 : decode cX8_count 131 = .ok (.isub, 1) := by decide +kernel
theorem dX8_count_132 : decode cX8_count 132 = .ok (.invokestatic 162, 3) := by decide +kernel
theorem dX8_count_135 : decode cX8_count 135 = .ok (.goto 5, 3) := by decide +kernel
theorem dX8_count_138 : decode cX8_count 138 = .ok (.bipush (-9), 2) := by decide +kernel
theorem dX8_count_140 : decode cX8_count 140 = .ok (.ireturn, 1) := by decide +kernel
theorem dX8_keeper_0 : decode cX8_keeper 0 = .ok (.aload_n 0, 1) := by decide +kernel
theorem dX8_keeper_1 : decode cX8_keeper 1 = .ok (.getfield 44, 3) := by decide +kernel
theorem dX8_keeper_4 : decode cX8_keeper 4 = .ok (.invokevirtual 166, 3) := by decide +kernel
theorem dX8_keeper_7 : decode cX8_keeper 7 = .ok (.ifCond .eq 7, 3) := by decide +kernel
theorem dX8_keeper_10 : decode cX8_keeper 10 = .ok (.iconst 0, 1) := by decide +kernel
theorem dX8_keeper_11 : decode cX8_keeper 11 = .ok (.goto 5, 3) := by decide +kernel
theorem dX8_keeper_14 : decode cX8_keeper 14 = .ok (.bipush (-6), 2) := by decide +kernel
theorem dX8_keeper_16 : decode cX8_keeper 16 = .ok (.istore 4, 2) := by decide +kernel
theorem dX8_keeper_18 : decode cX8_keeper 18 = .ok (.iload_n 1, 1) := by decide +kernel
theorem dX8_keeper_19 : decode cX8_keeper 19 = .ok (.ifCond .lt 9, 3) := by decide +kernel
theorem dX8_keeper_22 : decode cX8_keeper 22 = .ok (.iload_n 1, 1) := by decide +kernel
theorem dX8_keeper_23 : decode cX8_keeper 23 = .ok (.bipush 6, 2) := by decide +kernel
theorem dX8_keeper_25 : decode cX8_keeper 25 = .ok (.if_icmp .lt 8, 3) := by decide +kernel
theorem dX8_keeper_28 : decode cX8_keeper 28 = .ok (.bipush (-2), 2) := by decide +kernel
theorem dX8_keeper_30 : decode cX8_keeper 30 = .ok (.goto 4, 3) := by decide +kernel
theorem dX8_keeper_33 : decode cX8_keeper 33 = .ok (.iconst 0, 1) := by decide +kernel
theorem dX8_keeper_34 : decode cX8_keeper 34 = .ok (.iload_n 2, 1) := by decide +kernel
theorem dX8_keeper_35 : decode cX8_keeper 35 = .ok (.iconst 0, 1) := by decide +kernel
theorem dX8_keeper_36 : decode cX8_keeper 36 = .ok (.bipush 9, 2) := by decide +kernel
theorem dX8_keeper_38 : decode cX8_keeper 38 = .ok (.invokestatic 63, 3) := by decide +kernel
theorem dX8_keeper_41 : decode cX8_keeper 41 = .ok (.iload 4, 2) := by decide +kernel
theorem dX8_keeper_43 : decode cX8_keeper 43 = .ok (.invokestatic 71, 3) := by decide +kernel
theorem dX8_keeper_46 : decode cX8_keeper 46 = .ok (.istore 5, 2) := by decide +kernel
theorem dX8_keeper_48 : decode cX8_keeper 48 = .ok (.iload 5, 2) := by decide +kernel
theorem dX8_keeper_50 : decode cX8_keeper 50 = .ok (.iload_n 3, 1) := by decide +kernel
theorem dX8_keeper_51 : decode cX8_keeper 51 = .ok (.invokestatic 169, 3) := by decide +kernel
theorem dX8_keeper_54 : decode cX8_keeper 54 = .ok (.iconst 0, 1) := by decide +kernel
theorem dX8_keeper_55 : decode cX8_keeper 55 = .ok (.invokestatic 71, 3) := by decide +kernel
theorem dX8_keeper_58 : decode cX8_keeper 58 = .ok (.istore 5, 2) := by decide +kernel
theorem dX8_keeper_60 : decode cX8_keeper 60 = .ok (.iload 5, 2) := by decide +kernel
theorem dX8_keeper_62 : decode cX8_keeper 62 = .ok (.ifCond .eq 10, 3) := by decide +kernel
theorem dX8_keeper_65 : decode cX8_keeper 65 = .ok (.aload_n 0, 1) := by decide +kernel
theorem dX8_keeper_66 : decode cX8_keeper 66 = .ok (.iload 5, 2) := by decide +kernel
theorem dX8_keeper_68 : decode cX8_keeper 68 = .ok (.invokevirtual 74, 3) := by decide +kernel
theorem dX8_keeper_71 : decode cX8_keeper 71 = .ok (.ireturn, 1) := by decide +kernel
theorem dX8_keeper_72 : decode cX8_keeper 72 = .ok (.aload_n 0, 1) := by decide +kernel
theorem dX8_keeper_73 : decode cX8_keeper 73 = .ok (.getfield 22, 3) := by decide +kernel
theorem dX8_keeper_76 : decode cX8_keeper 76 = .ok (.invokevirtual 91, 3) := by decide +kernel
theorem dX8_keeper_79 : decode cX8_keeper 79 = .ok (.aload_n 0, 1) := by decide +kernel
theorem dX8_keeper_80 : decode cX8_keeper 80 = .ok (.getfield 44, 3) := by decide +kernel
theorem dX8_keeper_83 : decode cX8_keeper 83 = .ok (.iload_n 1, 1) := by decide +kernel
theorem dX8_keeper_84 : decode cX8_keeper 84 = .ok (.iload_n 2, 1) := by decide +kernel
theorem dX8_keeper_85 : decode cX8_keeper 85 = .ok (.iload_n 3, 1) := by decide +kernel
theorem dX8_keeper_86 : decode cX8_keeper 86 = .ok (.invokevirtual 172, 3) := by decide +kernel
theorem dX8_keeper_89 : decode cX8_keeper 89 = .ok (.ireturn, 1) := by decide +kernel
theorem dX8_letter_0 : decode cX8_letter 0 = .ok (.aload_n 0, 1) := by decide +kernel
theorem dX8_letter_1 : decode cX8_letter 1 = .ok (.getfield 44, 3) := by decide +kernel
theorem dX8_letter_4 : decode cX8_letter 4 = .ok (.invokevirtual 175, 3) := by decide +kernel
theorem dX8_letter_7 : decode cX8_letter 7 = .ok (.ifCond .eq 7, 3) := by decide +kernel
theorem dX8_letter_10 : decode cX8_letter 10 = .ok (.iconst 0, 1) := by decide +kernel
theorem dX8_letter_11 : decode cX8_letter 11 = .ok (.goto 5, 3) := by decide +kernel
theorem dX8_letter_14 : decode cX8_letter 14 = .ok (.bipush (-6), 2) := by decide +kernel
theorem dX8_letter_16 : decode cX8_letter 16 = .ok (.istore_n 3, 1) := by decide +kernel
theorem dX8_letter_17 : decode cX8_letter 17 = .ok (.iload_n 1, 1) := by decide +kernel
theorem dX8_letter_18 : decode cX8_letter 18 = .ok (.invokestatic 169, 3) := by decide +kernel
theorem dX8_letter_21 : decode cX8_letter 21 = .ok (.iload_n 2, 1) := by decide +kernel
theorem dX8_letter_22 : decode cX8_letter 22 = .ok (.iconst 0, 1) := by decide +kernel
theorem dX8_letter_23 : decode cX8_letter 23 = .ok (.bipush 99, 2) := by decide +kernel
theorem dX8_letter_25 : decode cX8_letter 25 = .ok (.invokestatic 63, 3) := by decide +kernel
theorem dX8_letter_28 : decode cX8_letter 28 = .ok (.iload_n 3, 1) := by decide +kernel
theorem dX8_letter_29 : decode cX8_letter 29 = .ok (.invokestatic 71, 3) := by decide +kernel
theorem dX8_letter_32 : decode cX8_letter 32 = .ok (.istore 4, 2) := by decide +kernel
theorem dX8_letter_34 : decode cX8_letter 34 = .ok (.iload 4, 2) := by decide +kernel
theorem dX8_letter_36 : decode cX8_letter 36 = .ok (.ifCond .eq 10, 3) := by decide +kernel
theorem dX8_letter_39 : decode cX8_letter 39 = .ok (.aload_n 0, 1) := by decide +kernel
theorem dX8_letter_40 : decode cX8_letter 40 = .ok (.iload 4, 2) := by decide +kernel
theorem dX8_letter_42 : decode cX8_letter 42 = .ok (.invokevirtual 74, 3) := by decide +kernel
theorem dX8_letter_45 : decode cX8_letter 45 = .ok (.ireturn, 1) := by decide +kernel
theorem dX8_letter_46 : decode cX8_letter 46 = .ok (.aload_n 0, 1) := by decide +kernel
theorem dX8_letter_47 : decode cX8_letter 47 = .ok (.getfield 22, 3) := by decide +kernel
theorem dX8_letter_50 : decode cX8_letter 50 = .ok (.invokevirtual 91, 3) := by decide +kernel
theorem dX8_letter_53 : decode cX8_letter 53 = .ok (.aload_n 0, 1) := by decide +kernel
theorem dX8_letter_54 : decode cX8_letter 54 = .ok (.getfield 44, 3) := by decide +kernel
theorem dX8_letter_57 : decode cX8_letter 57 = .ok (.iload_n 1, 1) := by decide +kernel
theorem dX8_letter_58 : decode cX8_letter 58 = .ok (.iload_n 2, 1) := by decide +kernel
theorem dX8_letter_59 : decode cX8_letter 59 = .ok (.invokevirtual 178, 3) := by decide +kernel
theorem dX8_letter_62 : decode cX8_letter 62 = .ok (.ireturn, 1) := by decide +kernel
theorem dX8_hates_0 : decode cX8_hates 0 = .ok (.aload_n 0, 1) := by decide +kernel
theorem dX8_hates_1 : decode cX8_hates 1 = .ok (.iload_n 1, 1) := by decide +kernel
theorem dX8_hates_2 : decode cX8_hates 2 = .ok (.iload_n 2, 1) := by decide +kernel
theorem dX8_hates_3 : decode cX8_hates 3 = .ok (.invokevirtual 135, 3) := by decide +kernel
theorem dX8_hates_6 : decode cX8_hates 6 = .ok (.iload_n 3, 1) := by decide +kernel
theorem dX8_hates_7 : decode cX8_hates 7 = .ok (.iconst 0, 1) := by decide +kernel
theorem dX8_hates_8 : decode cX8_hates 8 = .ok (.bipush 99, 2) := by decide +kernel
theorem dX8_hates_10 : decode cX8_hates 10 = .ok (.invokestatic 63, 3) := by decide +kernel
theorem dX8_hates_13 : decode cX8_hates 13 = .ok (.iconst 0, 1) := by decide +kernel
theorem dX8_hates_14 : decode cX8_hates 14 = .ok (.invokestatic 71, 3) := by decide +kernel
theorem dX8_hates_17 : decode cX8_hates 17 = .ok (.istore 4, 2) := by decide +kernel
theorem dX8_hates_19 : decode cX8_hates 19 = .ok (.iload 4, 2) := by decide +kernel
theorem dX8_hates_21 : decode cX8_hates 21 = .ok (.ifCond .eq 10, 3) := by decide +kernel
theorem dX8_hates_24 : decode cX8_hates 24 = .ok (.aload_n 0, 1) := by decide +kernel
theorem dX8_hates_25 : decode cX8_hates 25 = .ok (.iload 4, 2) := by decide +kernel
theorem dX8_hates_27 : decode cX8_hates 27 = .ok (.invokevirtual 74, 3) := by decide +kernel
theorem dX8_hates_30 : decode cX8_hates 30 = .ok (.ireturn, 1) := by decide +kernel
theorem dX8_hates_31 : decode cX8_hates 31 = .ok (.aload_n 0, 1) := by decide +kernel
theorem dX8_hates_32 : decode cX8_hates 32 = .ok (.getfield 22, 3) := by decide +kernel
theorem dX8_hates_35 : decode cX8_hates 35 = .ok (.aload_n 0, 1) := by decide +kernel
theorem dX8_hates_36 : decode cX8_hates 36 = .ok (.getfield 44, 3) := by decide +kernel
theorem dX8_hates_39 : decode cX8_hates 39 = .ok (.invokevirtual 181, 3) := by decide +kernel
theorem dX8_hates_42 : decode cX8_hates 42 = .ok (.aload_n 0, 1) := by decide +kernel
theorem dX8_hates_43 : decode cX8_hates 43 = .ok (.getfield 44, 3) := by decide +kernel
theorem dX8_hates_46 : decode cX8_hates 46 = .ok (.iload_n 1, 1) := by decide +kernel
theorem dX8_hates_47 : decode cX8_hates 47 = .ok (.iload_n 2, 1) := by decide +kernel
theorem dX8_hates_48 : decode cX8_hates 48 = .ok (.invokevirtual 138, 3) := by decide +kernel
theorem dX8_hates_51 : decode cX8_hates 51 = .ok (.istore 5, 2) := by decide +kernel
theorem dX8_hates_53 : decode cX8_hates 53 = .ok (.aload_n 0, 1) := by decide +kernel
theorem dX8_hates_54 : decode cX8_hates 54 = .ok (.getfield 44, 3) := by decide +kernel
theorem dX8_hates_57 : decode cX8_hates 57 = .ok (.iload_n 1, 1) := by decide +kernel
theorem dX8_hates_58 : decode cX8_hates 58 = .ok (.iload_n 2, 1) := by decide +kernel
theorem dX8_hates_59 : decode cX8_hates 59 = .ok (.iload_n 3, 1) := by decide +kernel
theorem dX8_hates_60 : decode cX8_hates 60 = .ok (.invokevirtual 184, 3) := by decide +kernel
theorem dX8_hates_63 : decode cX8_hates 63 = .ok (.iload 5, 2) := by decide +kernel
theorem dX8_hates_65 : decode cX8_hates 65 = .ok (.ireturn, 1) := by decide +kernel
theorem dX8_goes_0 : decode cX8_goes 0 = .ok (.aload_n 0, 1) := by decide +kernel
theorem dX8_goes_1 : decode cX8_goes 1 = .ok (.iload_n 1, 1) := by decide +kernel
theorem dX8_goes_2 : decode cX8_goes 2 = .ok (.invokevirtual 94, 3) := by decide +kernel
theorem dX8_goes_5 : decode cX8_goes 5 = .ok (.iload_n 2, 1) := by decide +kernel
theorem dX8_goes_6 : decode cX8_goes 6 = .ok (.invokestatic 169, 3) := by decide +kernel
theorem dX8_goes_9 : decode cX8_goes 9 = .ok (.iconst 0, 1) := by decide +kernel
theorem dX8_goes_10 : decode cX8_goes 10 = .ok (.invokestatic 71, 3) := by decide +kernel
theorem dX8_goes_13 : decode cX8_goes 13 = .ok (.istore_n 3, 1) := by decide +kernel
theorem dX8_goes_14 : decode cX8_goes 14 = .ok (.iload_n 3, 1) := by decide +kernel
theorem dX8_goes_15 : decode cX8_goes 15 = .ok (.ifCond .eq 9, 3) := by decide +kernel
theorem dX8_goes_18 : decode cX8_goes 18 = .ok (.aload_n 0, 1) := by decide +kernel
theorem dX8_goes_19 : decode cX8_goes 19 = .ok (.iload_n 3, 1) := by decide +kernel
theorem dX8_goes_20 : decode cX8_goes 20 = .ok (.invokevirtual 74, 3) := by decide +kernel
theorem dX8_goes_23 : decode cX8_goes 23 = .ok (.ireturn, 1) := by decide +kernel
theorem dX8_goes_24 : decode cX8_goes 24 = .ok (.aload_n 0, 1) := by decide +kernel
theorem dX8_goes_25 : decode cX8_goes 25 = .ok (.getfield 22, 3) := by decide +kernel
theorem dX8_goes_28 : decode cX8_goes 28 = .ok (.aload_n 0, 1) := by decide +kernel
theorem dX8_goes_29 : decode cX8_goes 29 = .ok (.getfield 44, 3) := by decide +kernel
theorem dX8_goes_32 : decode cX8_goes 32 = .ok (.invokevirtual 181, 3) := by decide +kernel
theorem dX8_goes_35 : decode cX8_goes 35 = .ok (.aload_n 0, 1) := by decide +kernel
theorem dX8_goes_36 : decode cX8_goes 36 = .ok (.getfield 44, 3) := by decide +kernel
theorem dX8_goes_39 : decode cX8_goes 39 = .ok (.iload_n 1, 1) := by decide +kernel
theorem dX8_goes_40 : decode cX8_goes 40 = .ok (.invokevirtual 107, 3) := by decide +kernel
theorem dX8_goes_43 : decode cX8_goes 43 = .ok (.istore 4, 2) := by decide +kernel
theorem dX8_goes_45 : decode cX8_goes 45 = .ok (.aload_n 0, 1) := by decide +kernel
theorem dX8_goes_46 : decode cX8_goes 46 = .ok (.getfield 44, 3) := by decide +kernel
theorem dX8_goes_49 : decode cX8_goes 49 = .ok (.iload_n 1, 1) := by decide +kernel
theorem dX8_goes_50 : decode cX8_goes 50 = .ok (.iload_n 2, 1) := by decide +kernel
theorem dX8_goes_51 : decode cX8_goes 51 = .ok (.invokevirtual 188, 3) := by decide +kernel
theorem dX8_goes_54 : decode cX8_goes 54 = .ok (.iload 4, 2) := by decide +kernel
theorem dX8_goes_56 : decode cX8_goes 56 = .ok (.ireturn, 1) := by decide +kernel
theorem dX8_seals_0 : decode cX8_seals 0 = .ok (.aload_n 0, 1) := by decide +kernel
theorem dX8_seals_1 : decode cX8_seals 1 = .ok (.iload_n 1, 1) := by decide +kernel
theorem dX8_seals_2 : decode cX8_seals 2 = .ok (.invokevirtual 119, 3) := by decide +kernel
theorem dX8_seals_5 : decode cX8_seals 5 = .ok (.istore_n 2, 1) := by decide +kernel
theorem dX8_seals_6 : decode cX8_seals 6 = .ok (.iload_n 2, 1) := by decide +kernel
theorem dX8_seals_7 : decode cX8_seals 7 = .ok (.ifCond .eq 9, 3) := by decide +kernel
theorem dX8_seals_10 : decode cX8_seals 10 = .ok (.aload_n 0, 1) := by decide +kernel
theorem dX8_seals_11 : decode cX8_seals 11 = .ok (.iload_n 2, 1) := by decide +kernel
theorem dX8_seals_12 : decode cX8_seals 12 = .ok (.invokevirtual 74, 3) := by decide +kernel
theorem dX8_seals_15 : decode cX8_seals 15 = .ok (.ireturn, 1) := by decide +kernel
theorem dX8_seals_16 : decode cX8_seals 16 = .ok (.aload_n 0, 1) := by decide +kernel
theorem dX8_seals_17 : decode cX8_seals 17 = .ok (.getfield 22, 3) := by decide +kernel
theorem dX8_seals_20 : decode cX8_seals 20 = .ok (.aload_n 0, 1) := by decide +kernel
theorem dX8_seals_21 : decode cX8_seals 21 = .ok (.getfield 44, 3) := by decide +kernel
theorem dX8_seals_24 : decode cX8_seals 24 = .ok (.invokevirtual 181, 3) := by decide +kernel
theorem dX8_seals_27 : decode cX8_seals 27 = .ok (.aload_n 0, 1) := by decide +kernel
theorem dX8_seals_28 : decode cX8_seals 28 = .ok (.getfield 44, 3) := by decide +kernel
theorem dX8_seals_31 : decode cX8_seals 31 = .ok (.iload_n 1, 1) := by decide +kernel
theorem dX8_seals_32 : decode cX8_seals 32 = .ok (.invokevirtual 192, 3) := by decide +kernel
theorem dX8_seals_35 : decode cX8_seals 35 = .ok (.aload_n 0, 1) := by decide +kernel
theorem dX8_seals_36 : decode cX8_seals 36 = .ok (.getfield 44, 3) := by decide +kernel
theorem dX8_seals_39 : decode cX8_seals 39 = .ok (.iload_n 1, 1) := by decide +kernel
theorem dX8_seals_40 : decode cX8_seals 40 = .ok (.invokevirtual 128, 3) := by decide +kernel
theorem dX8_seals_43 : decode cX8_seals 43 = .ok (.ifCond .eq 7, 3) := by decide +kernel
theorem dX8_seals_46 : decode cX8_seals 46 = .ok (.iconst 1, 1) := by decide +kernel
theorem dX8_seals_47 : decode cX8_seals 47 = .ok (.goto 4, 3) := by decide +kernel
theorem dX8_seals_50 : decode cX8_seals 50 = .ok (.iconst 0, 1) := by decide +kernel
theorem dX8_seals_51 : decode cX8_seals 51 = .ok (.ireturn, 1) := by decide +kernel
theorem dX8_weeks_0 : decode cX8_weeks 0 = .ok (.iload_n 1, 1) := by decide +kernel
theorem dX8_weeks_1 : decode cX8_weeks 1 = .ok (.iconst 1, 1) := by decide +kernel
theorem dX8_weeks_2 : decode cX8_weeks 2 = .ok (.bipush 60, 2) := by decide +kernel
theorem dX8_weeks_4 : decode cX8_weeks 4 = .ok (.invokestatic 63, 3) := by decide +kernel
theorem dX8_weeks_7 : decode cX8_weeks 7 = .ok (.iload_n 1, 1) := by decide +kernel
theorem dX8_weeks_8 : decode cX8_weeks 8 = .ok (.sipush 999, 3) := by decide +kernel
theorem dX8_weeks_11 : decode cX8_weeks 11 = .ok (.aload_n 0, 1) := by decide +kernel
theorem dX8_weeks_12 : decode cX8_weeks 12 = .ok (.getfield 44, 3) := by decide +kernel
theorem dX8_weeks_15 : decode cX8_weeks 15 = .ok (.invokevirtual 148, 3) := by decide +kernel
theorem dX8_weeks_18 : decode cX8_weeks 18 = .ok (.isub, 1) := by decide +kernel
theorem dX8_weeks_19 : decode cX8_weeks 19 = .ok (.if_icmp .le 8, 3) := by decide +kernel
theorem dX8_weeks_22 : decode cX8_weeks 22 = .ok (.bipush (-6), 2) := by decide +kernel
theorem dX8_weeks_24 : decode cX8_weeks 24 = .ok (.goto 4, 3) := by decide +kernel
theorem dX8_weeks_27 : decode cX8_weeks 27 = .ok (.iconst 0, 1) := by decide +kernel
theorem dX8_weeks_28 : decode cX8_weeks 28 = .ok (.iconst 0, 1) := by decide +kernel
theorem dX8_weeks_29 : decode cX8_weeks 29 = .ok (.invokestatic 71, 3) := by decide +kernel
theorem dX8_weeks_32 : decode cX8_weeks 32 = .ok (.istore_n 2, 1) := by decide +kernel
theorem dX8_weeks_33 : decode cX8_weeks 33 = .ok (.iload_n 2, 1) := by decide +kernel
theorem dX8_weeks_34 : decode cX8_weeks 34 = .ok (.ifCond .eq 9, 3) := by decide +kernel
theorem dX8_weeks_37 : decode cX8_weeks 37 = .ok (.aload_n 0, 1) := by decide +kernel
theorem dX8_weeks_38 : decode cX8_weeks 38 = .ok (.iload_n 2, 1) := by decide +kernel
theorem dX8_weeks_39 : decode cX8_weeks 39 = .ok (.invokevirtual 74, 3) := by decide +kernel
theorem dX8_weeks_42 : decode cX8_weeks 42 = .ok (.ireturn, 1) := by decide +kernel
theorem dX8_weeks_43 : decode cX8_weeks 43 = .ok (.aload_n 0, 1) := by decide +kernel
theorem dX8_weeks_44 : decode cX8_weeks 44 = .ok (.getfield 22, 3) := by decide +kernel
theorem dX8_weeks_47 : decode cX8_weeks 47 = .ok (.aload_n 0, 1) := by decide +kernel
theorem dX8_weeks_48 : decode cX8_weeks 48 = .ok (.getfield 44, 3) := by decide +kernel
theorem dX8_weeks_51 : decode cX8_weeks 51 = .ok (.invokevirtual 181, 3) := by decide +kernel
theorem dX8_weeks_54 : decode cX8_weeks 54 = .ok (.aload_n 0, 1) := by decide +kernel
theorem dX8_weeks_55 : decode cX8_weeks 55 = .ok (.getfield 44, 3) := by decide +kernel
theorem dX8_weeks_58 : decode cX8_weeks 58 = .ok (.iload_n 1, 1) := by decide +kernel
theorem dX8_weeks_59 : decode cX8_weeks 59 = .ok (.invokevirtual 196, 3) := by decide +kernel
theorem dX8_weeks_62 : decode cX8_weeks 62 = .ok (.ireturn, 1) := by decide +kernel
theorem dX8_back_0 : decode cX8_back 0 = .ok (.aload_n 0, 1) := by decide +kernel
theorem dX8_back_1 : decode cX8_back 1 = .ok (.getfield 22, 3) := by decide +kernel
theorem dX8_back_4 : decode cX8_back 4 = .ok (.invokevirtual 161, 3) := by decide +kernel
theorem dX8_back_7 : decode cX8_back 7 = .ok (.ifCond .ne 10, 3) := by decide +kernel
theorem dX8_back_10 : decode cX8_back 10 = .ok (.aload_n 0, 1) := by decide +kernel
theorem dX8_back_11 : decode cX8_back 11 = .ok (.bipush (-3), 2) := by decide +kernel
theorem dX8_back_13 : decode cX8_back 13 = .ok (.invokevirtual 74, 3) := by decide +kernel
theorem dX8_back_16 : decode cX8_back 16 = .ok (.ireturn, 1) := by decide +kernel
theorem dX8_back_17 : decode cX8_back 17 = .ok (.aload_n 0, 1) := by decide +kernel
theorem dX8_back_18 : decode cX8_back 18 = .ok (.getfield 22, 3) := by decide +kernel
theorem dX8_back_21 : decode cX8_back 21 = .ok (.aload_n 0, 1) := by decide +kernel
theorem dX8_back_22 : decode cX8_back 22 = .ok (.getfield 44, 3) := by decide +kernel
theorem dX8_back_25 : decode cX8_back 25 = .ok (.invokevirtual 199, 3) := by decide +kernel
theorem dX8_back_28 : decode cX8_back 28 = .ok (.aload_n 0, 1) := by decide +kernel
theorem dX8_back_29 : decode cX8_back 29 = .ok (.getfield 22, 3) := by decide +kernel
theorem dX8_back_32 : decode cX8_back 32 = .ok (.invokevirtual 161, 3) := by decide +kernel
theorem dX8_back_35 : decode cX8_back 35 = .ok (.ireturn, 1) := by decide +kernel
theorem dX8_image_0 : decode cX8_image 0 = .ok (.aload_n 0, 1) := by decide +kernel
theorem dX8_image_1 : decode cX8_image 1 = .ok (.getfield 16, 3) := by decide +kernel
theorem dX8_image_4 : decode cX8_image 4 = .ok (.aload_n 0, 1) := by decide +kernel
theorem dX8_image_5 : decode cX8_image 5 = .ok (.getfield 44, 3) := by decide +kernel
theorem dX8_image_8 : decode cX8_image 8 = .ok (.invokevirtual 81, 3) := by decide +kernel
theorem dX8_image_11 : decode cX8_image 11 = .ok (.aload_n 0, 1) := by decide +kernel
theorem dX8_image_12 : decode cX8_image 12 = .ok (.iconst 1, 1) := by decide +kernel
theorem dX8_image_13 : decode cX8_image 13 = .ok (.putfield 202, 3) := by decide +kernel
theorem dX8_image_16 : decode cX8_image 16 = .ok (.aload_n 0, 1) := by decide +kernel
theorem dX8_image_17 : decode cX8_image 17 = .ok (.getfield 44, 3) := by decide +kernel
theorem dX8_image_20 : decode cX8_image 20 = .ok (.invokevirtual 148, 3) := by decide +kernel
theorem dX8_image_23 : decode cX8_image 23 = .ok (.ireturn, 1) := by decide +kernel
theorem dX8_restore_0 : decode cX8_restore 0 = .ok (.aload_n 0, 1) := by decide +kernel
theorem dX8_restore_1 : decode cX8_restore 1 = .ok (.getfield 202, 3) := by decide +kernel
theorem dX8_restore_4 : decode cX8_restore 4 = .ok (.ifCond .ne 10, 3) := by decide +kernel
theorem dX8_restore_7 : decode cX8_restore 7 = .ok (.aload_n 0, 1) := by decide +kernel
theorem dX8_restore_8 : decode cX8_restore 8 = .ok (.bipush (-3), 2) := by decide +kernel
theorem dX8_restore_10 : decode cX8_restore 10 = .ok (.invokevirtual 74, 3) := by decide +kernel
theorem dX8_restore_13 : decode cX8_restore 13 = .ok (.ireturn, 1) := by decide +kernel
theorem dX8_restore_14 : decode cX8_restore 14 = .ok (.aload_n 0, 1) := by decide +kernel
theorem dX8_restore_15 : decode cX8_restore 15 = .ok (.getfield 44, 3) := by decide +kernel
theorem dX8_restore_18 : decode cX8_restore 18 = .ok (.aload_n 0, 1) := by decide +kernel
theorem dX8_restore_19 : decode cX8_restore 19 = .ok (.getfield 16, 3) := by decide +kernel
theorem dX8_restore_22 : decode cX8_restore 22 = .ok (.invokevirtual 81, 3) := by decide +kernel
theorem dX8_restore_25 : decode cX8_restore 25 = .ok (.aload_n 0, 1) := by decide +kernel
theorem dX8_restore_26 : decode cX8_restore 26 = .ok (.getfield 22, 3) := by decide +kernel
theorem dX8_restore_29 : decode cX8_restore 29 = .ok (.invokevirtual 91, 3) := by decide +kernel
theorem dX8_restore_32 : decode cX8_restore 32 = .ok (.aload_n 0, 1) := by decide +kernel
theorem dX8_restore_33 : decode cX8_restore 33 = .ok (.getfield 44, 3) := by decide +kernel
theorem dX8_restore_36 : decode cX8_restore 36 = .ok (.invokevirtual 148, 3) := by decide +kernel
theorem dX8_restore_39 : decode cX8_restore 39 = .ok (.ireturn, 1) := by decide +kernel
theorem dX8_row_0 : decode cX8_row 0 = .ok (.iload_n 1, 1) := by decide +kernel
theorem dX8_row_1 : decode cX8_row 1 = .ok (.iconst 0, 1) := by decide +kernel
theorem dX8_row_2 : decode cX8_row 2 = .ok (.bipush 99, 2) := by decide +kernel
theorem dX8_row_4 : decode cX8_row 4 = .ok (.invokestatic 63, 3) := by decide +kernel
theorem dX8_row_7 : decode cX8_row 7 = .ok (.aload_n 0, 1) := by decide +kernel
theorem dX8_row_8 : decode cX8_row 8 = .ok (.getfield 36, 3) := by decide +kernel
theorem dX8_row_11 : decode cX8_row 11 = .ok (.invokevirtual 206, 3) := by decide +kernel
theorem dX8_row_14 : decode cX8_row 14 = .ok (.ifCond .eq 8, 3) := by decide +kernel
theorem dX8_row_17 : decode cX8_row 17 = .ok (.bipush (-6), 2) := by decide +kernel
theorem dX8_row_19 : decode cX8_row 19 = .ok (.goto 4, 3) := by decide +kernel
theorem dX8_row_22 : decode cX8_row 22 = .ok (.iconst 0, 1) := by decide +kernel
theorem dX8_row_23 : decode cX8_row 23 = .ok (.iconst 0, 1) := by decide +kernel
theorem dX8_row_24 : decode cX8_row 24 = .ok (.invokestatic 71, 3) := by decide +kernel
theorem dX8_row_27 : decode cX8_row 27 = .ok (.istore_n 2, 1) := by decide +kernel
theorem dX8_row_28 : decode cX8_row 28 = .ok (.iload_n 2, 1) := by decide +kernel
theorem dX8_row_29 : decode cX8_row 29 = .ok (.ifCond .eq 11, 3) := by decide +kernel
theorem dX8_row_32 : decode cX8_row 32 = .ok (.aload_n 0, 1) := by decide +kernel
theorem dX8_row_33 : decode cX8_row 33 = .ok (.iload_n 2, 1) := by decide +kernel
theorem dX8_row_34 : decode cX8_row 34 = .ok (.invokevirtual 74, 3) := by decide +kernel
theorem dX8_row_37 : decode cX8_row 37 = .ok (.goto 11, 3) := by decide +kernel
theorem dX8_row_40 : decode cX8_row 40 = .ok (.aload_n 0, 1) := by decide +kernel
theorem dX8_row_41 : decode cX8_row 41 = .ok (.getfield 36, 3) := by decide +kernel
theorem dX8_row_44 : decode cX8_row 44 = .ok (.iload_n 1, 1) := by decide +kernel
theorem dX8_row_45 : decode cX8_row 45 = .ok (.invokevirtual 207, 3) := by decide +kernel
theorem dX8_row_48 : decode cX8_row 48 = .ok (.ireturn, 1) := by decide +kernel
theorem dX8_judge_0 : decode cX8_judge 0 = .ok (.aload_n 0, 1) := by decide +kernel
theorem dX8_judge_1 : decode cX8_judge 1 = .ok (.iload_n 1, 1) := by decide +kernel
theorem dX8_judge_2 : decode cX8_judge 2 = .ok (.invokevirtual 94, 3) := by decide +kernel
theorem dX8_judge_5 : decode cX8_judge 5 = .ok (.istore_n 2, 1) := by decide +kernel
theorem dX8_judge_6 : decode cX8_judge 6 = .ok (.iload_n 2, 1) := by decide +kernel
theorem dX8_judge_7 : decode cX8_judge 7 = .ok (.ifCond .eq 9, 3) := by decide +kernel
theorem dX8_judge_10 : decode cX8_judge 10 = .ok (.aload_n 0, 1) := by decide +kernel
theorem dX8_judge_11 : decode cX8_judge 11 = .ok (.iload_n 2, 1) := by decide +kernel
theorem dX8_judge_12 : decode cX8_judge 12 = .ok (.invokevirtual 74, 3) := by decide +kernel
theorem dX8_judge_15 : decode cX8_judge 15 = .ok (.ireturn, 1) := by decide +kernel
theorem dX8_judge_16 : decode cX8_judge 16 = .ok (.aload_n 0, 1) := by decide +kernel
theorem dX8_judge_17 : decode cX8_judge 17 = .ok (.getfield 52, 3) := by decide +kernel
theorem dX8_judge_20 : decode cX8_judge 20 = .ok (.iload_n 1, 1) := by decide +kernel
theorem dX8_judge_21 : decode cX8_judge 21 = .ok (.aload_n 0, 1) := by decide +kernel
theorem dX8_judge_22 : decode cX8_judge 22 = .ok (.getfield 36, 3) := by decide +kernel
theorem dX8_judge_25 : decode cX8_judge 25 = .ok (.invokevirtual 208, 3) := by decide +kernel
theorem dX8_judge_28 : decode cX8_judge 28 = .ok (.istore_n 3, 1) := by decide +kernel
theorem dX8_judge_29 : decode cX8_judge 29 = .ok (.aload_n 0, 1) := by decide +kernel
theorem dX8_judge_30 : decode cX8_judge 30 = .ok (.getfield 36, 3) := by decide +kernel
theorem dX8_judge_33 : decode cX8_judge 33 = .ok (.invokevirtual 212, 3) := by decide +kernel
theorem dX8_judge_36 : decode cX8_judge 36 = .ok (.iload_n 3, 1) := by decide +kernel
theorem dX8_judge_37 : decode cX8_judge 37 = .ok (.ireturn, 1) := by decide +kernel
theorem dX8_clear_0 : decode cX8_clear 0 = .ok (.aload_n 0, 1) := by decide +kernel
theorem dX8_clear_1 : decode cX8_clear 1 = .ok (.getfield 36, 3) := by decide +kernel
theorem dX8_clear_4 : decode cX8_clear 4 = .ok (.invokevirtual 160, 3) := by decide +kernel
theorem dX8_clear_7 : decode cX8_clear 7 = .ok (.istore_n 1, 1) := by decide +kernel
theorem dX8_clear_8 : decode cX8_clear 8 = .ok (.aload_n 0, 1) := by decide +kernel
theorem dX8_clear_9 : decode cX8_clear 9 = .ok (.getfield 36, 3) := by decide +kernel
theorem dX8_clear_12 : decode cX8_clear 12 = .ok (.invokevirtual 212, 3) := by decide +kernel
theorem dX8_clear_15 : decode cX8_clear 15 = .ok (.iload_n 1, 1) := by decide +kernel
theorem dX8_clear_16 : decode cX8_clear 16 = .ok (.ireturn, 1) := by decide +kernel
theorem dX8_behind_0 : decode cX8_behind 0 = .ok (.aload_n 0, 1) := by decide +kernel
theorem dX8_behind_1 : decode cX8_behind 1 = .ok (.iload_n 1, 1) := by decide +kernel
theorem dX8_behind_2 : decode cX8_behind 2 = .ok (.iload_n 2, 1) := by decide +kernel
theorem dX8_behind_3 : decode cX8_behind 3 = .ok (.invokevirtual 135, 3) := by decide +kernel
theorem dX8_behind_6 : decode cX8_behind 6 = .ok (.iload_n 3, 1) := by decide +kernel
theorem dX8_behind_7 : decode cX8_behind 7 = .ok (.iconst 0, 1) := by decide +kernel
theorem dX8_behind_8 : decode cX8_behind 8 = .ok (.bipush 60, 2) := by decide +kernel
theorem dX8_behind_10 : decode cX8_behind 10 = .ok (.invokestatic 63, 3) := by decide +kernel
theorem dX8_behind_13 : decode cX8_behind 13 = .ok (.iconst 0, 1) := by decide +kernel
theorem dX8_behind_14 : decode cX8_behind 14 = .ok (.invokestatic 71, 3) := by decide +kernel
theorem dX8_behind_17 : decode cX8_behind 17 = .ok (.istore 4, 2) := by decide +kernel
theorem dX8_behind_19 : decode cX8_behind 19 = .ok (.iload 4, 2) := by decide +kernel
theorem dX8_behind_21 : decode cX8_behind 21 = .ok (.ifCond .eq 12, 3) := by decide +kernel
theorem dX8_behind_24 : decode cX8_behind 24 = .ok (.aload_n 0, 1) := by decide +kernel
theorem dX8_behind_25 : decode cX8_behind 25 = .ok (.iload 4, 2) := by decide +kernel
theorem dX8_behind_27 : decode cX8_behind 27 = .ok (.invokevirtual 74, 3) := by decide +kernel
theorem dX8_behind_30 : decode cX8_behind 30 = .ok (.goto 13, 3) := by decide +kernel
theorem dX8_behind_33 : decode cX8_behind 33 = .ok (.aload_n 0, 1) := by decide +kernel
theorem dX8_behind_34 : decode cX8_behind 34 = .ok (.getfield 59, 3) := by decide +kernel
theorem dX8_behind_37 : decode cX8_behind 37 = .ok (.iload_n 1, 1) := by decide +kernel
theorem dX8_behind_38 : decode cX8_behind 38 = .ok (.iload_n 2, 1) := by decide +kernel
theorem dX8_behind_39 : decode cX8_behind 39 = .ok (.iload_n 3, 1) := by decide +kernel
theorem dX8_behind_40 : decode cX8_behind 40 = .ok (.invokevirtual 213, 3) := by decide +kernel
theorem dX8_behind_43 : decode cX8_behind 43 = .ok (.ireturn, 1) := by decide +kernel
theorem dX8_then_0 : decode cX8_then 0 = .ok (.iload_n 1, 1) := by decide +kernel
theorem dX8_then_1 : decode cX8_then 1 = .ok (.iconst 0, 1) := by decide +kernel
theorem dX8_then_2 : decode cX8_then 2 = .ok (.bipush 60, 2) := by decide +kernel
theorem dX8_then_4 : decode cX8_then 4 = .ok (.invokestatic 63, 3) := by decide +kernel
theorem dX8_then_7 : decode cX8_then 7 = .ok (.iload_n 2, 1) := by decide +kernel
theorem dX8_then_8 : decode cX8_then 8 = .ok (.iconst 1, 1) := by decide +kernel
theorem dX8_then_9 : decode cX8_then 9 = .ok (.invokestatic 97, 3) := by decide +kernel
theorem dX8_then_12 : decode cX8_then 12 = .ok (.iconst 0, 1) := by decide +kernel
theorem dX8_then_13 : decode cX8_then 13 = .ok (.invokestatic 71, 3) := by decide +kernel
theorem dX8_then_16 : decode cX8_then 16 = .ok (.istore_n 3, 1) := by decide +kernel
theorem dX8_then_17 : decode cX8_then 17 = .ok (.iload_n 3, 1) := by decide +kernel
theorem dX8_then_18 : decode cX8_then 18 = .ok (.ifCond .eq 9, 3) := by decide +kernel
theorem dX8_then_21 : decode cX8_then 21 = .ok (.aload_n 0, 1) := by decide +kernel
theorem dX8_then_22 : decode cX8_then 22 = .ok (.iload_n 3, 1) := by decide +kernel
theorem dX8_then_23 : decode cX8_then 23 = .ok (.invokevirtual 74, 3) := by decide +kernel
theorem dX8_then_26 : decode cX8_then 26 = .ok (.ireturn, 1) := by decide +kernel
theorem dX8_then_27 : decode cX8_then 27 = .ok (.iload_n 2, 1) := by decide +kernel
theorem dX8_then_28 : decode cX8_then 28 = .ok (.ifCond .ne 14, 3) := by decide +kernel
theorem dX8_then_31 : decode cX8_then 31 = .ok (.aload_n 0, 1) := by decide +kernel
theorem dX8_then_32 : decode cX8_then 32 = .ok (.getfield 59, 3) := by decide +kernel
theorem dX8_then_35 : decode cX8_then 35 = .ok (.iload_n 1, 1) := by decide +kernel
theorem dX8_then_36 : decode cX8_then 36 = .ok (.invokevirtual 216, 3) := by decide +kernel
theorem dX8_then_39 : decode cX8_then 39 = .ok (.goto 11, 3) := by decide +kernel
theorem dX8_then_42 : decode cX8_then 42 = .ok (.aload_n 0, 1) := by decide +kernel
theorem dX8_then_43 : decode cX8_then 43 = .ok (.getfield 59, 3) := by decide +kernel
theorem dX8_then_46 : decode cX8_then 46 = .ok (.iload_n 1, 1) := by decide +kernel
theorem dX8_then_47 : decode cX8_then 47 = .ok (.invokevirtual 219, 3) := by decide +kernel
theorem dX8_then_50 : decode cX8_then 50 = .ok (.ireturn, 1) := by decide +kernel
theorem dX8_when_0 : decode cX8_when 0 = .ok (.aload_n 0, 1) := by decide +kernel
theorem dX8_when_1 : decode cX8_when 1 = .ok (.iload_n 1, 1) := by decide +kernel
theorem dX8_when_2 : decode cX8_when 2 = .ok (.invokevirtual 119, 3) := by decide +kernel
theorem dX8_when_5 : decode cX8_when 5 = .ok (.iload_n 2, 1) := by decide +kernel
theorem dX8_when_6 : decode cX8_when 6 = .ok (.iconst 1, 1) := by decide +kernel
theorem dX8_when_7 : decode cX8_when 7 = .ok (.invokestatic 97, 3) := by decide +kernel
theorem dX8_when_10 : decode cX8_when 10 = .ok (.iconst 0, 1) := by decide +kernel
theorem dX8_when_11 : decode cX8_when 11 = .ok (.invokestatic 71, 3) := by decide +kernel
theorem dX8_when_14 : decode cX8_when 14 = .ok (.istore_n 3, 1) := by decide +kernel
theorem dX8_when_15 : decode cX8_when 15 = .ok (.iload_n 3, 1) := by decide +kernel
theorem dX8_when_16 : decode cX8_when 16 = .ok (.ifCond .eq 9, 3) := by decide +kernel
theorem dX8_when_19 : decode cX8_when 19 = .ok (.aload_n 0, 1) := by decide +kernel
theorem dX8_when_20 : decode cX8_when 20 = .ok (.iload_n 3, 1) := by decide +kernel
theorem dX8_when_21 : decode cX8_when 21 = .ok (.invokevirtual 74, 3) := by decide +kernel
theorem dX8_when_24 : decode cX8_when 24 = .ok (.ireturn, 1) := by decide +kernel
theorem dX8_when_25 : decode cX8_when 25 = .ok (.iload_n 2, 1) := by decide +kernel
theorem dX8_when_26 : decode cX8_when 26 = .ok (.ifCond .ne 14, 3) := by decide +kernel
theorem dX8_when_29 : decode cX8_when 29 = .ok (.aload_n 0, 1) := by decide +kernel
theorem dX8_when_30 : decode cX8_when 30 = .ok (.getfield 59, 3) := by decide +kernel
theorem dX8_when_33 : decode cX8_when 33 = .ok (.iload_n 1, 1) := by decide +kernel
theorem dX8_when_34 : decode cX8_when 34 = .ok (.invokevirtual 222, 3) := by decide +kernel
theorem dX8_when_37 : decode cX8_when 37 = .ok (.goto 11, 3) := by decide +kernel
theorem dX8_when_40 : decode cX8_when 40 = .ok (.aload_n 0, 1) := by decide +kernel
theorem dX8_when_41 : decode cX8_when 41 = .ok (.getfield 59, 3) := by decide +kernel
theorem dX8_when_44 : decode cX8_when 44 = .ok (.iload_n 1, 1) := by decide +kernel
theorem dX8_when_45 : decode cX8_when 45 = .ok (.invokevirtual 225, 3) := by decide +kernel
theorem dX8_when_48 : decode cX8_when 48 = .ok (.ireturn, 1) := by decide +kernel
theorem dX8_lasts_0 : decode cX8_lasts 0 = .ok (.aload_n 0, 1) := by decide +kernel
theorem dX8_lasts_1 : decode cX8_lasts 1 = .ok (.iload_n 1, 1) := by decide +kernel
theorem dX8_lasts_2 : decode cX8_lasts 2 = .ok (.iload_n 2, 1) := by decide +kernel
theorem dX8_lasts_3 : decode cX8_lasts 3 = .ok (.invokevirtual 135, 3) := by decide +kernel
theorem dX8_lasts_6 : decode cX8_lasts 6 = .ok (.iload_n 3, 1) := by decide +kernel
theorem dX8_lasts_7 : decode cX8_lasts 7 = .ok (.iconst 0, 1) := by decide +kernel
theorem dX8_lasts_8 : decode cX8_lasts 8 = .ok (.bipush 99, 2) := by decide +kernel
theorem dX8_lasts_10 : decode cX8_lasts 10 = .ok (.invokestatic 63, 3) := by decide +kernel
theorem dX8_lasts_13 : decode cX8_lasts 13 = .ok (.iconst 0, 1) := by decide +kernel
theorem dX8_lasts_14 : decode cX8_lasts 14 = .ok (.invokestatic 71, 3) := by decide +kernel
theorem dX8_lasts_17 : decode cX8_lasts 17 = .ok (.istore 4, 2) := by decide +kernel
theorem dX8_lasts_19 : decode cX8_lasts 19 = .ok (.iload 4, 2) := by decide +kernel
theorem dX8_lasts_21 : decode cX8_lasts 21 = .ok (.ifCond .eq 12, 3) := by decide +kernel
theorem dX8_lasts_24 : decode cX8_lasts 24 = .ok (.aload_n 0, 1) := by decide +kernel
theorem dX8_lasts_25 : decode cX8_lasts 25 = .ok (.iload 4, 2) := by decide +kernel
theorem dX8_lasts_27 : decode cX8_lasts 27 = .ok (.invokevirtual 74, 3) := by decide +kernel
theorem dX8_lasts_30 : decode cX8_lasts 30 = .ok (.goto 13, 3) := by decide +kernel
theorem dX8_lasts_33 : decode cX8_lasts 33 = .ok (.aload_n 0, 1) := by decide +kernel
theorem dX8_lasts_34 : decode cX8_lasts 34 = .ok (.getfield 59, 3) := by decide +kernel
theorem dX8_lasts_37 : decode cX8_lasts 37 = .ok (.iload_n 1, 1) := by decide +kernel
theorem dX8_lasts_38 : decode cX8_lasts 38 = .ok (.iload_n 2, 1) := by decide +kernel
theorem dX8_lasts_39 : decode cX8_lasts 39 = .ok (.iload_n 3, 1) := by decide +kernel
theorem dX8_lasts_40 : decode cX8_lasts 40 = .ok (.invokevirtual 228, 3) := by decide +kernel
theorem dX8_lasts_43 : decode cX8_lasts 43 = .ok (.ireturn, 1) := by decide +kernel
theorem dX8_never_0 : decode cX8_never 0 = .ok (.iload_n 1, 1) := by decide +kernel
theorem dX8_never_1 : decode cX8_never 1 = .ok (.iconst 1, 1) := by decide +kernel
theorem dX8_never_2 : decode cX8_never 2 = .ok (.invokestatic 97, 3) := by decide +kernel
theorem dX8_never_5 : decode cX8_never 5 = .ok (.istore_n 2, 1) := by decide +kernel
theorem dX8_never_6 : decode cX8_never 6 = .ok (.iload_n 2, 1) := by decide +kernel
theorem dX8_never_7 : decode cX8_never 7 = .ok (.ifCond .eq 9, 3) := by decide +kernel
theorem dX8_never_10 : decode cX8_never 10 = .ok (.aload_n 0, 1) := by decide +kernel
theorem dX8_never_11 : decode cX8_never 11 = .ok (.iload_n 2, 1) := by decide +kernel
theorem dX8_never_12 : decode cX8_never 12 = .ok (.invokevirtual 74, 3) := by decide +kernel
theorem dX8_never_15 : decode cX8_never 15 = .ok (.ireturn, 1) := by decide +kernel
theorem dX8_never_16 : decode cX8_never 16 = .ok (.iload_n 1, 1) := by decide +kernel
theorem dX8_never_17 : decode cX8_never 17 = .ok (.ifCond .ne 13, 3) := by decide +kernel
theorem dX8_never_20 : decode cX8_never 20 = .ok (.aload_n 0, 1) := by decide +kernel
theorem dX8_never_21 : decode cX8_never 21 = .ok (.getfield 59, 3) := by decide +kernel
theorem dX8_never_24 : decode cX8_never 24 = .ok (.invokevirtual 231, 3) := by decide +kernel
theorem dX8_never_27 : decode cX8_never 27 = .ok (.goto 10, 3) := by decide +kernel
theorem dX8_never_30 : decode cX8_never 30 = .ok (.aload_n 0, 1) := by decide +kernel
theorem dX8_never_31 : decode cX8_never 31 = .ok (.getfield 59, 3) := by decide +kernel
theorem dX8_never_34 : decode cX8_never 34 = .ok (.invokevirtual 234, 3) := by decide +kernel
theorem dX8_never_37 : decode cX8_never 37 = .ok (.ireturn, 1) := by decide +kernel
theorem dX8_insult_0 : decode cX8_insult 0 = .ok (.aload_n 0, 1) := by decide +kernel
theorem dX8_insult_1 : decode cX8_insult 1 = .ok (.getfield 44, 3) := by decide +kernel
theorem dX8_insult_4 : decode cX8_insult 4 = .ok (.iload_n 3, 1) := by decide +kernel
theorem dX8_insult_5 : decode cX8_insult 5 = .ok (.invokevirtual 128, 3) := by decide +kernel
theorem dX8_insult_8 : decode cX8_insult 8 = .ok (.ifCond .eq 8, 3) := by decide +kernel
theorem dX8_insult_11 : decode cX8_insult 11 = .ok (.bipush (-3), 2) := by decide +kernel
theorem dX8_insult_13 : decode cX8_insult 13 = .ok (.goto 4, 3) := by decide +kernel
theorem dX8_insult_16 : decode cX8_insult 16 = .ok (.iconst 0, 1) := by decide +kernel
theorem dX8_insult_17 : decode cX8_insult 17 = .ok (.istore 4, 2) := by decide +kernel
theorem dX8_insult_19 : decode cX8_insult 19 = .ok (.aload_n 0, 1) := by decide +kernel
theorem dX8_insult_20 : decode cX8_insult 20 = .ok (.iload_n 1, 1) := by decide +kernel
theorem dX8_insult_21 : decode cX8_insult 21 = .ok (.iload_n 2, 1) := by decide +kernel
theorem dX8_insult_22 : decode cX8_insult 22 = .ok (.invokevirtual 135, 3) := by decide +kernel
theorem dX8_insult_25 : decode cX8_insult 25 = .ok (.aload_n 0, 1) := by decide +kernel
theorem dX8_insult_26 : decode cX8_insult 26 = .ok (.iload_n 3, 1) := by decide +kernel
theorem dX8_insult_27 : decode cX8_insult 27 = .ok (.invokevirtual 119, 3) := by decide +kernel
theorem dX8_insult_30 : decode cX8_insult 30 = .ok (.iload 4, 2) := by decide +kernel
theorem dX8_insult_32 : decode cX8_insult 32 = .ok (.invokestatic 71, 3) := by decide +kernel
theorem dX8_insult_35 : decode cX8_insult 35 = .ok (.istore 5, 2) := by decide +kernel
theorem dX8_insult_37 : decode cX8_insult 37 = .ok (.iload 5, 2) := by decide +kernel
theorem dX8_insult_39 : decode cX8_insult 39 = .ok (.ifCond .eq 12, 3) := by decide +kernel
theorem dX8_insult_42 : decode cX8_insult 42 = .ok (.aload_n 0, 1) := by decide +kernel
theorem dX8_insult_43 : decode cX8_insult 43 = .ok (.iload 5, 2) := by decide +kernel
theorem dX8_insult_45 : decode cX8_insult 45 = .ok (.invokevirtual 74, 3) := by decide +kernel
theorem dX8_insult_48 : decode cX8_insult 48 = .ok (.goto 13, 3) := by decide +kernel
theorem dX8_insult_51 : decode cX8_insult 51 = .ok (.aload_n 0, 1) := by decide +kernel
theorem dX8_insult_52 : decode cX8_insult 52 = .ok (.getfield 59, 3) := by decide +kernel
theorem dX8_insult_55 : decode cX8_insult 55 = .ok (.iload_n 1, 1) := by decide +kernel
theorem dX8_insult_56 : decode cX8_insult 56 = .ok (.iload_n 2, 1) := by decide +kernel
theorem dX8_insult_57 : decode cX8_insult 57 = .ok (.iload_n 3, 1) := by decide +kernel
theorem dX8_insult_58 : decode cX8_insult 58 = .ok (.invokevirtual 237, 3) := by decide +kernel
theorem dX8_insult_61 : decode cX8_insult 61 = .ok (.ireturn, 1) := by decide +kernel
theorem dX8_used_0 : decode cX8_used 0 = .ok (.aload_n 0, 1) := by decide +kernel
theorem dX8_used_1 : decode cX8_used 1 = .ok (.iload_n 1, 1) := by decide +kernel
theorem dX8_used_2 : decode cX8_used 2 = .ok (.iload_n 2, 1) := by decide +kernel
theorem dX8_used_3 : decode cX8_used 3 = .ok (.invokevirtual 135, 3) := by decide +kernel
theorem dX8_used_6 : decode cX8_used 6 = .ok (.iload_n 3, 1) := by decide +kernel
theorem dX8_used_7 : decode cX8_used 7 = .ok (.iconst 0, 1) := by decide +kernel
theorem dX8_used_8 : decode cX8_used 8 = .ok (.bipush 60, 2) := by decide +kernel
theorem dX8_used_10 : decode cX8_used 10 = .ok (.invokestatic 63, 3) := by decide +kernel
theorem dX8_used_13 : decode cX8_used 13 = .ok (.iconst 0, 1) := by decide +kernel
theorem dX8_used_14 : decode cX8_used 14 = .ok (.invokestatic 71, 3) := by decide +kernel
theorem dX8_used_17 : decode cX8_used 17 = .ok (.istore 4, 2) := by decide +kernel
theorem dX8_used_19 : decode cX8_used 19 = .ok (.iload 4, 2) := by decide +kernel
theorem dX8_used_21 : decode cX8_used 21 = .ok (.ifCond .eq 13, 3) := by decide +kernel
theorem dX8_used_24 : decode cX8_used 24 = .ok (.ldc 240, 2) := by decide +kernel
theorem dX8_used_26 : decode cX8_used 26 = .ok (.aload_n 0, 1) := by decide +kernel
theorem dX8_used_27 : decode cX8_used 27 = .ok (.iload 4, 2) := by decide +kernel
theorem dX8_used_29 : decode cX8_used 29 = .ok (.invokevirtual 74, 3) := by decide +kernel
theorem dX8_used_32 : decode cX8_used 32 = .ok (.isub, 1) := by decide +kernel
theorem dX8_used_33 : decode cX8_used 33 = .ok (.ireturn, 1) := by decide +kernel
theorem dX8_used_34 : decode cX8_used 34 = .ok (.aload_n 0, 1) := by decide +kernel
theorem dX8_used_35 : decode cX8_used 35 = .ok (.getfield 44, 3) := by decide +kernel
theorem dX8_used_38 : decode cX8_used 38 = .ok (.iload_n 1, 1) := by decide +kernel
theorem dX8_used_39 : decode cX8_used 39 = .ok (.iload_n 2, 1) := by decide +kernel
theorem dX8_used_40 : decode cX8_used 40 = .ok (.invokevirtual 138, 3) := by decide +kernel
theorem dX8_used_43 : decode cX8_used 43 = .ok (.aload_n 0, 1) := by decide +kernel
theorem dX8_used_44 : decode cX8_used 44 = .ok (.getfield 59, 3) := by decide +kernel
theorem dX8_used_47 : decode cX8_used 47 = .ok (.iload_n 1, 1) := by decide +kernel
theorem dX8_used_48 : decode cX8_used 48 = .ok (.iload_n 2, 1) := by decide +kernel
theorem dX8_used_49 : decode cX8_used 49 = .ok (.iload_n 3, 1) := by decide +kernel
theorem dX8_used_50 : decode cX8_used 50 = .ok (.invokevirtual 213, 3) := by decide +kernel
theorem dX8_used_53 : decode cX8_used 53 = .ok (.isub, 1) := by decide +kernel
theorem dX8_used_54 : decode cX8_used 54 = .ok (.ireturn, 1) := by decide +kernel
theorem dX8_apart_0 : decode cX8_apart 0 = .ok (.iload_n 1, 1) := by decide +kernel
theorem dX8_apart_1 : decode cX8_apart 1 = .ok (.iconst 0, 1) := by decide +kernel
theorem dX8_apart_2 : decode cX8_apart 2 = .ok (.bipush 60, 2) := by decide +kernel
theorem dX8_apart_4 : decode cX8_apart 4 = .ok (.invokestatic 63, 3) := by decide +kernel
theorem dX8_apart_7 : decode cX8_apart 7 = .ok (.istore_n 2, 1) := by decide +kernel
theorem dX8_apart_8 : decode cX8_apart 8 = .ok (.iload_n 2, 1) := by decide +kernel
theorem dX8_apart_9 : decode cX8_apart 9 = .ok (.ifCond .eq 11, 3) := by decide +kernel
theorem dX8_apart_12 : decode cX8_apart 12 = .ok (.aload_n 0, 1) := by decide +kernel
theorem dX8_apart_13 : decode cX8_apart 13 = .ok (.iload_n 2, 1) := by decide +kernel
theorem dX8_apart_14 : decode cX8_apart 14 = .ok (.invokevirtual 74, 3) := by decide +kernel
theorem dX8_apart_17 : decode cX8_apart 17 = .ok (.goto 11, 3) := by decide +kernel
theorem dX8_apart_20 : decode cX8_apart 20 = .ok (.aload_n 0, 1) := by decide +kernel
theorem dX8_apart_21 : decode cX8_apart 21 = .ok (.getfield 59, 3) := by decide +kernel
theorem dX8_apart_24 : decode cX8_apart 24 = .ok (.iload_n 1, 1) := by decide +kernel
theorem dX8_apart_25 : decode cX8_apart 25 = .ok (.invokevirtual 241, 3) := by decide +kernel
theorem dX8_apart_28 : decode cX8_apart 28 = .ok (.ireturn, 1) := by decide +kernel
theorem dX8_two_0 : decode cX8_two 0 = .ok (.aload_n 0, 1) := by decide +kernel
theorem dX8_two_1 : decode cX8_two 1 = .ok (.iload_n 1, 1) := by decide +kernel
theorem dX8_two_2 : decode cX8_two 2 = .ok (.iload_n 2, 1) := by decide +kernel
theorem dX8_two_3 : decode cX8_two 3 = .ok (.invokevirtual 135, 3) := by decide +kernel
theorem dX8_two_6 : decode cX8_two 6 = .ok (.istore_n 3, 1) := by decide +kernel
theorem dX8_two_7 : decode cX8_two 7 = .ok (.iload_n 3, 1) := by decide +kernel
theorem dX8_two_8 : decode cX8_two 8 = .ok (.ifCond .eq 11, 3) := by decide +kernel
theorem dX8_two_11 : decode cX8_two 11 = .ok (.aload_n 0, 1) := by decide +kernel
theorem dX8_two_12 : decode cX8_two 12 = .ok (.iload_n 3, 1) := by decide +kernel
theorem dX8_two_13 : decode cX8_two 13 = .ok (.invokevirtual 74, 3) := by decide +kernel
theorem dX8_two_16 : decode cX8_two 16 = .ok (.goto 12, 3) := by decide +kernel
theorem dX8_two_19 : decode cX8_two 19 = .ok (.aload_n 0, 1) := by decide +kernel
theorem dX8_two_20 : decode cX8_two 20 = .ok (.getfield 59, 3) := by decide +kernel
theorem dX8_two_23 : decode cX8_two 23 = .ok (.iload_n 1, 1) := by decide +kernel
theorem dX8_two_24 : decode cX8_two 24 = .ok (.iload_n 2, 1) := by decide +kernel
theorem dX8_two_25 : decode cX8_two 25 = .ok (.invokevirtual 244, 3) := by decide +kernel
theorem dX8_two_28 : decode cX8_two 28 = .ok (.ireturn, 1) := by decide +kernel
theorem dX8_send_0 : decode cX8_send 0 = .ok (.iload_n 1, 1) := by decide +kernel
theorem dX8_send_1 : decode cX8_send 1 = .ok (.iconst 0, 1) := by decide +kernel
theorem dX8_send_2 : decode cX8_send 2 = .ok (.bipush 60, 2) := by decide +kernel
theorem dX8_send_4 : decode cX8_send 4 = .ok (.invokestatic 63, 3) := by decide +kernel
theorem dX8_send_7 : decode cX8_send 7 = .ok (.istore_n 2, 1) := by decide +kernel
theorem dX8_send_8 : decode cX8_send 8 = .ok (.iload_n 2, 1) := by decide +kernel
theorem dX8_send_9 : decode cX8_send 9 = .ok (.ifCond .eq 11, 3) := by decide +kernel
theorem dX8_send_12 : decode cX8_send 12 = .ok (.aload_n 0, 1) := by decide +kernel
theorem dX8_send_13 : decode cX8_send 13 = .ok (.iload_n 2, 1) := by decide +kernel
theorem dX8_send_14 : decode cX8_send 14 = .ok (.invokevirtual 74, 3) := by decide +kernel
theorem dX8_send_17 : decode cX8_send 17 = .ok (.goto 11, 3) := by decide +kernel
theorem dX8_send_20 : decode cX8_send 20 = .ok (.aload_n 0, 1) := by decide +kernel
theorem dX8_send_21 : decode cX8_send 21 = .ok (.getfield 59, 3) := by decide +kernel
theorem dX8_send_24 : decode cX8_send 24 = .ok (.iload_n 1, 1) := by decide +kernel
theorem dX8_send_25 : decode cX8_send 25 = .ok (.invokevirtual 247, 3) := by decide +kernel
theorem dX8_send_28 : decode cX8_send 28 = .ok (.ireturn, 1) := by decide +kernel
theorem dX8_swap_0 : decode cX8_swap 0 = .ok (.iload_n 1, 1) := by decide +kernel
theorem dX8_swap_1 : decode cX8_swap 1 = .ok (.iconst 0, 1) := by decide +kernel
theorem dX8_swap_2 : decode cX8_swap 2 = .ok (.bipush 60, 2) := by decide +kernel
theorem dX8_swap_4 : decode cX8_swap 4 = .ok (.invokestatic 63, 3) := by decide +kernel
theorem dX8_swap_7 : decode cX8_swap 7 = .ok (.istore_n 2, 1) := by decide +kernel
theorem dX8_swap_8 : decode cX8_swap 8 = .ok (.iload_n 2, 1) := by decide +kernel
theorem dX8_swap_9 : decode cX8_swap 9 = .ok (.ifCond .eq 11, 3) := by decide +kernel
theorem dX8_swap_12 : decode cX8_swap 12 = .ok (.aload_n 0, 1) := by decide +kernel
theorem dX8_swap_13 : decode cX8_swap 13 = .ok (.iload_n 2, 1) := by decide +kernel
theorem dX8_swap_14 : decode cX8_swap 14 = .ok (.invokevirtual 74, 3) := by decide +kernel
theorem dX8_swap_17 : decode cX8_swap 17 = .ok (.goto 11, 3) := by decide +kernel
theorem dX8_swap_20 : decode cX8_swap 20 = .ok (.aload_n 0, 1) := by decide +kernel
theorem dX8_swap_21 : decode cX8_swap 21 = .ok (.getfield 59, 3) := by decide +kernel
theorem dX8_swap_24 : decode cX8_swap 24 = .ok (.iload_n 1, 1) := by decide +kernel
theorem dX8_swap_25 : decode cX8_swap 25 = .ok (.invokevirtual 250, 3) := by decide +kernel
theorem dX8_swap_28 : decode cX8_swap 28 = .ok (.ireturn, 1) := by decide +kernel
theorem dX8_places_0 : decode cX8_places 0 = .ok (.aload_n 0, 1) := by decide +kernel
theorem dX8_places_1 : decode cX8_places 1 = .ok (.iload_n 1, 1) := by decide +kernel
theorem dX8_places_2 : decode cX8_places 2 = .ok (.iload_n 2, 1) := by decide +kernel
theorem dX8_places_3 : decode cX8_places 3 = .ok (.invokevirtual 135, 3) := by decide +kernel
theorem dX8_places_6 : decode cX8_places 6 = .ok (.aload_n 0, 1) := by decide +kernel
theorem dX8_places_7 : decode cX8_places 7 = .ok (.iload_n 1, 1) := by decide +kernel
theorem dX8_places_8 : decode cX8_places 8 = .ok (.iload_n 3, 1) := by decide +kernel
theorem dX8_places_9 : decode cX8_places 9 = .ok (.invokevirtual 135, 3) := by decide +kernel
theorem dX8_places_12 : decode cX8_places 12 = .ok (.aload_n 0, 1) := by decide +kernel
theorem dX8_places_13 : decode cX8_places 13 = .ok (.iload_n 2, 1) := by decide +kernel
theorem dX8_places_14 : decode cX8_places 14 = .ok (.iload_n 3, 1) := by decide +kernel
theorem dX8_places_15 : decode cX8_places 15 = .ok (.invokevirtual 135, 3) := by decide +kernel
theorem dX8_places_18 : decode cX8_places 18 = .ok (.invokestatic 71, 3) := by decide +kernel
theorem dX8_places_21 : decode cX8_places 21 = .ok (.istore 6, 2) := by decide +kernel
theorem dX8_places_23 : decode cX8_places 23 = .ok (.iload 6, 2) := by decide +kernel
theorem dX8_places_25 : decode cX8_places 25 = .ok (.iload 4, 2) := by decide +kernel
theorem dX8_places_27 : decode cX8_places 27 = .ok (.iconst 0, 1) := by decide +kernel
theorem dX8_places_28 : decode cX8_places 28 = .ok (.bipush 60, 2) := by decide +kernel
theorem dX8_places_30 : decode cX8_places 30 = .ok (.invokestatic 63, 3) := by decide +kernel
theorem dX8_places_33 : decode cX8_places 33 = .ok (.iload 5, 2) := by decide +kernel
theorem dX8_places_35 : decode cX8_places 35 = .ok (.iconst 1, 1) := by decide +kernel
theorem dX8_places_36 : decode cX8_places 36 = .ok (.invokestatic 97, 3) := by decide +kernel
theorem dX8_places_39 : decode cX8_places 39 = .ok (.invokestatic 71, 3) := by decide +kernel
theorem dX8_places_42 : decode cX8_places 42 = .ok (.istore 7, 2) := by decide +kernel
theorem dX8_places_44 : decode cX8_places 44 = .ok (.iload 7, 2) := by decide +kernel
theorem dX8_places_46 : decode cX8_places 46 = .ok (.ifCond .eq 10, 3) := by decide +kernel
theorem dX8_places_49 : decode cX8_places 49 = .ok (.aload_n 0, 1) := by decide +kernel
theorem dX8_places_50 : decode cX8_places 50 = .ok (.iload 7, 2) := by decide +kernel
theorem dX8_places_52 : decode cX8_places 52 = .ok (.invokevirtual 74, 3) := by decide +kernel
theorem dX8_places_55 : decode cX8_places 55 = .ok (.ireturn, 1) := by decide +kernel
theorem dX8_places_56 : decode cX8_places 56 = .ok (.aload_n 0, 1) := by decide +kernel
theorem dX8_places_57 : decode cX8_places 57 = .ok (.getfield 59, 3) := by decide +kernel
theorem dX8_places_60 : decode cX8_places 60 = .ok (.iload_n 1, 1) := by decide +kernel
theorem dX8_places_61 : decode cX8_places 61 = .ok (.iload_n 2, 1) := by decide +kernel
theorem dX8_places_62 : decode cX8_places 62 = .ok (.iload_n 3, 1) := by decide +kernel
theorem dX8_places_63 : decode cX8_places 63 = .ok (.iload 4, 2) := by decide +kernel
theorem dX8_places_65 : decode cX8_places 65 = .ok (.invokevirtual 253, 3) := by decide +kernel
theorem dX8_places_68 : decode cX8_places 68 = .ok (.istore 8, 2) := by decide +kernel
theorem dX8_places_70 : decode cX8_places 70 = .ok (.iload 5, 2) := by decide +kernel
theorem dX8_places_72 : decode cX8_places 72 = .ok (.ifCond .ne 8, 3) := by decide +kernel
theorem dX8_places_75 : decode cX8_places 75 = .ok (.iload 8, 2) := by decide +kernel
theorem dX8_places_77 : decode cX8_places 77 = .ok (.goto 17, 3) := by decide +kernel
theorem dX8_places_80 : decode cX8_places 80 = .ok (.aload_n 0, 1) := by decide +kernel
theorem dX8_places_81 : decode cX8_places 81 = .ok (.getfield 59, 3) := by decide +kernel
theorem dX8_places_84 : decode cX8_places 84 = .ok (.iload_n 1, 1) := by decide +kernel
theorem dX8_places_85 : decode cX8_places 85 = .ok (.iload_n 2, 1) := by decide +kernel
theorem dX8_places_86 : decode cX8_places 86 = .ok (.iload_n 3, 1) := by decide +kernel
theorem dX8_places_87 : decode cX8_places 87 = .ok (.iload 4, 2) := by decide +kernel
theorem dX8_places_89 : decode cX8_places 89 = .ok (.iload 8, 2) := by decide +kernel
theorem dX8_places_91 : decode cX8_places 91 = .ok (.invokevirtual 257, 3) := by decide +kernel
theorem dX8_places_94 : decode cX8_places 94 = .ok (.ireturn, 1) := by decide +kernel
theorem dX8_fewest_0 : decode cX8_fewest 0 = .ok (.iload_n 1, 1) := by decide +kernel
theorem dX8_fewest_1 : decode cX8_fewest 1 = .ok (.iconst 0, 1) := by decide +kernel
theorem dX8_fewest_2 : decode cX8_fewest 2 = .ok (.bipush 60, 2) := by decide +kernel
theorem dX8_fewest_4 : decode cX8_fewest 4 = .ok (.invokestatic 63, 3) := by decide +kernel
theorem dX8_fewest_7 : decode cX8_fewest 7 = .ok (.iload_n 2, 1) := by decide +kernel
theorem dX8_fewest_8 : decode cX8_fewest 8 = .ok (.iconst 1, 1) := by decide +kernel
theorem dX8_fewest_9 : decode cX8_fewest 9 = .ok (.invokestatic 97, 3) := by decide +kernel
theorem dX8_fewest_12 : decode cX8_fewest 12 = .ok (.iconst 0, 1) := by decide +kernel
theorem dX8_fewest_13 : decode cX8_fewest 13 = .ok (.invokestatic 71, 3) := by decide +kernel
theorem dX8_fewest_16 : decode cX8_fewest 16 = .ok (.istore_n 3, 1) := by decide +kernel
theorem dX8_fewest_17 : decode cX8_fewest 17 = .ok (.iload_n 3, 1) := by decide +kernel
theorem dX8_fewest_18 : decode cX8_fewest 18 = .ok (.ifCond .eq 9, 3) := by decide +kernel
theorem dX8_fewest_21 : decode cX8_fewest 21 = .ok (.aload_n 0, 1) := by decide +kernel
theorem dX8_fewest_22 : decode cX8_fewest 22 = .ok (.iload_n 3, 1) := by decide +kernel
theorem dX8_fewest_23 : decode cX8_fewest 23 = .ok (.invokevirtual 74, 3) := by decide +kernel
theorem dX8_fewest_26 : decode cX8_fewest 26 = .ok (.ireturn, 1) := by decide +kernel
theorem dX8_fewest_27 : decode cX8_fewest 27 = .ok (.aload_n 0, 1) := by decide +kernel
theorem dX8_fewest_28 : decode cX8_fewest 28 = .ok (.getfield 59, 3) := by decide +kernel
theorem dX8_fewest_31 : decode cX8_fewest 31 = .ok (.iload_n 1, 1) := by decide +kernel
theorem dX8_fewest_32 : decode cX8_fewest 32 = .ok (.invokevirtual 261, 3) := by decide +kernel
theorem dX8_fewest_35 : decode cX8_fewest 35 = .ok (.istore 4, 2) := by decide +kernel
theorem dX8_fewest_37 : decode cX8_fewest 37 = .ok (.iload_n 2, 1) := by decide +kernel
theorem dX8_fewest_38 : decode cX8_fewest 38 = .ok (.ifCond .ne 8, 3) := by decide +kernel
theorem dX8_fewest_41 : decode cX8_fewest 41 = .ok (.iload 4, 2) := by decide +kernel
theorem dX8_fewest_43 : decode cX8_fewest 43 = .ok (.goto 12, 3) := by decide +kernel
theorem dX8_fewest_46 : decode cX8_fewest 46 = .ok (.aload_n 0, 1) := by decide +kernel
theorem dX8_fewest_47 : decode cX8_fewest 47 = .ok (.getfield 52, 3) := by decide +kernel
theorem dX8_fewest_50 : decode cX8_fewest 50 = .ok (.iload 4, 2) := by decide +kernel
theorem dX8_fewest_52 : decode cX8_fewest 52 = .ok (.invokevirtual 264, 3) := by decide +kernel
theorem dX8_fewest_55 : decode cX8_fewest 55 = .ok (.ireturn, 1) := by decide +kernel
theorem dX8_pay_0 : decode cX8_pay 0 = .ok (.iload_n 1, 1) := by decide +kernel
theorem dX8_pay_1 : decode cX8_pay 1 = .ok (.iconst (-1), 1) := by decide +kernel
theorem dX8_pay_2 : decode cX8_pay 2 = .ok (.if_icmp .ne 7, 3) := by decide +kernel
theorem dX8_pay_5 : decode cX8_pay 5 = .ok (.iconst 0, 1) := by decide +kernel
theorem dX8_pay_6 : decode cX8_pay 6 = .ok (.goto 7, 3) := by decide +kernel
theorem dX8_pay_9 : decode cX8_pay 9 = .ok (.iload_n 1, 1) := by decide +kernel
theorem dX8_pay_10 : decode cX8_pay 10 = .ok (.invokestatic 169, 3) := by decide +kernel
theorem dX8_pay_13 : decode cX8_pay 13 = .ok (.iload_n 2, 1) := by decide +kernel
theorem dX8_pay_14 : decode cX8_pay 14 = .ok (.iconst 0, 1) := by decide +kernel
theorem dX8_pay_15 : decode cX8_pay 15 = .ok (.bipush 60, 2) := by decide +kernel
theorem dX8_pay_17 : decode cX8_pay 17 = .ok (.invokestatic 63, 3) := by decide +kernel
theorem dX8_pay_20 : decode cX8_pay 20 = .ok (.iconst 0, 1) := by decide +kernel
theorem dX8_pay_21 : decode cX8_pay 21 = .ok (.invokestatic 71, 3) := by decide +kernel
theorem dX8_pay_24 : decode cX8_pay 24 = .ok (.istore_n 3, 1) := by decide +kernel
theorem dX8_pay_25 : decode cX8_pay 25 = .ok (.iload_n 3, 1) := by decide +kernel
theorem dX8_pay_26 : decode cX8_pay 26 = .ok (.ifCond .eq 11, 3) := by decide +kernel
theorem dX8_pay_29 : decode cX8_pay 29 = .ok (.aload_n 0, 1) := by decide +kernel
theorem dX8_pay_30 : decode cX8_pay 30 = .ok (.iload_n 3, 1) := by decide +kernel
theorem dX8_pay_31 : decode cX8_pay 31 = .ok (.invokevirtual 74, 3) := by decide +kernel
theorem dX8_pay_34 : decode cX8_pay 34 = .ok (.goto 20, 3) := by decide +kernel
theorem dX8_pay_37 : decode cX8_pay 37 = .ok (.aload_n 0, 1) := by decide +kernel
theorem dX8_pay_38 : decode cX8_pay 38 = .ok (.getfield 52, 3) := by decide +kernel
theorem dX8_pay_41 : decode cX8_pay 41 = .ok (.aload_n 0, 1) := by decide +kernel
theorem dX8_pay_42 : decode cX8_pay 42 = .ok (.getfield 52, 3) := by decide +kernel
theorem dX8_pay_45 : decode cX8_pay 45 = .ok (.iload_n 1, 1) := by decide +kernel
theorem dX8_pay_46 : decode cX8_pay 46 = .ok (.invokevirtual 267, 3) := by decide +kernel
theorem dX8_pay_49 : decode cX8_pay 49 = .ok (.invokevirtual 264, 3) := by decide +kernel
theorem dX8_pay_52 : decode cX8_pay 52 = .ok (.iload_n 2, 1) := by decide +kernel
theorem dX8_pay_53 : decode cX8_pay 53 = .ok (.imul, 1) := by decide +kernel
theorem dX8_pay_54 : decode cX8_pay 54 = .ok (.ireturn, 1) := by decide +kernel
theorem dX8_whoHates_0 : decode cX8_whoHates 0 = .ok (.aload_n 0, 1) := by decide +kernel
theorem dX8_whoHates_1 : decode cX8_whoHates 1 = .ok (.iload_n 1, 1) := by decide +kernel
theorem dX8_whoHates_2 : decode cX8_whoHates 2 = .ok (.iload_n 2, 1) := by decide +kernel
theorem dX8_whoHates_3 : decode cX8_whoHates 3 = .ok (.invokevirtual 135, 3) := by decide +kernel
theorem dX8_whoHates_6 : decode cX8_whoHates 6 = .ok (.iload_n 3, 1) := by decide +kernel
theorem dX8_whoHates_7 : decode cX8_whoHates 7 = .ok (.iconst 2, 1) := by decide +kernel
theorem dX8_whoHates_8 : decode cX8_whoHates 8 = .ok (.invokestatic 97, 3) := by decide +kernel
theorem dX8_whoHates_11 : decode cX8_whoHates 11 = .ok (.iconst 0, 1) := by decide +kernel
theorem dX8_whoHates_12 : decode cX8_whoHates 12 = .ok (.invokestatic 71, 3) := by decide +kernel
theorem dX8_whoHates_15 : decode cX8_whoHates 15 = .ok (.istore 4, 2) := by decide +kernel
theorem dX8_whoHates_17 : decode cX8_whoHates 17 = .ok (.iload 4, 2) := by decide +kernel
theorem dX8_whoHates_19 : decode cX8_whoHates 19 = .ok (.ifCond .eq 12, 3) := by decide +kernel
theorem dX8_whoHates_22 : decode cX8_whoHates 22 = .ok (.aload_n 0, 1) := by decide +kernel
theorem dX8_whoHates_23 : decode cX8_whoHates 23 = .ok (.iload 4, 2) := by decide +kernel
theorem dX8_whoHates_25 : decode cX8_whoHates 25 = .ok (.invokevirtual 74, 3) := by decide +kernel
theorem dX8_whoHates_28 : decode cX8_whoHates 28 = .ok (.goto 17, 3) := by decide +kernel
theorem dX8_whoHates_31 : decode cX8_whoHates 31 = .ok (.aload_n 0, 1) := by decide +kernel
theorem dX8_whoHates_32 : decode cX8_whoHates 32 = .ok (.getfield 59, 3) := by decide +kernel
theorem dX8_whoHates_35 : decode cX8_whoHates 35 = .ok (.iload_n 1, 1) := by decide +kernel
theorem dX8_whoHates_36 : decode cX8_whoHates 36 = .ok (.iload_n 2, 1) := by decide +kernel
theorem dX8_whoHates_37 : decode cX8_whoHates 37 = .ok (.aload_n 0, 1) := by decide +kernel
theorem dX8_whoHates_38 : decode cX8_whoHates 38 = .ok (.getfield 36, 3) := by decide +kernel
theorem dX8_whoHates_41 : decode cX8_whoHates 41 = .ok (.iload_n 3, 1) := by decide +kernel
theorem dX8_whoHates_42 : decode cX8_whoHates 42 = .ok (.invokevirtual 270, 3) := by decide +kernel
theorem dX8_whoHates_45 : decode cX8_whoHates 45 = .ok (.ireturn, 1) := by decide +kernel
theorem dX8_whatKind_0 : decode cX8_whatKind 0 = .ok (.aload_n 0, 1) := by decide +kernel
theorem dX8_whatKind_1 : decode cX8_whatKind 1 = .ok (.iload_n 1, 1) := by decide +kernel
theorem dX8_whatKind_2 : decode cX8_whatKind 2 = .ok (.iload_n 2, 1) := by decide +kernel
theorem dX8_whatKind_3 : decode cX8_whatKind 3 = .ok (.invokevirtual 135, 3) := by decide +kernel
theorem dX8_whatKind_6 : decode cX8_whatKind 6 = .ok (.iload_n 3, 1) := by decide +kernel
theorem dX8_whatKind_7 : decode cX8_whatKind 7 = .ok (.iconst 1, 1) := by decide +kernel
theorem dX8_whatKind_8 : decode cX8_whatKind 8 = .ok (.invokestatic 97, 3) := by decide +kernel
theorem dX8_whatKind_11 : decode cX8_whatKind 11 = .ok (.iconst 0, 1) := by decide +kernel
theorem dX8_whatKind_12 : decode cX8_whatKind 12 = .ok (.invokestatic 71, 3) := by decide +kernel
theorem dX8_whatKind_15 : decode cX8_whatKind 15 = .ok (.istore 4, 2) := by decide +kernel
theorem dX8_whatKind_17 : decode cX8_whatKind 17 = .ok (.iload 4, 2) := by decide +kernel
theorem dX8_whatKind_19 : decode cX8_whatKind 19 = .ok (.ifCond .eq 10, 3) := by decide +kernel
theorem dX8_whatKind_22 : decode cX8_whatKind 22 = .ok (.aload_n 0, 1) := by decide +kernel
theorem dX8_whatKind_23 : decode cX8_whatKind 23 = .ok (.iload 4, 2) := by decide +kernel
theorem dX8_whatKind_25 : decode cX8_whatKind 25 = .ok (.invokevirtual 74, 3) := by decide +kernel
theorem dX8_whatKind_28 : decode cX8_whatKind 28 = .ok (.ireturn, 1) := by decide +kernel
theorem dX8_whatKind_29 : decode cX8_whatKind 29 = .ok (.iload_n 3, 1) := by decide +kernel
theorem dX8_whatKind_30 : decode cX8_whatKind 30 = .ok (.ifCond .ne 19, 3) := by decide +kernel
theorem dX8_whatKind_33 : decode cX8_whatKind 33 = .ok (.aload_n 0, 1) := by decide +kernel
theorem dX8_whatKind_34 : decode cX8_whatKind 34 = .ok (.getfield 59, 3) := by decide +kernel
theorem dX8_whatKind_37 : decode cX8_whatKind 37 = .ok (.iload_n 1, 1) := by decide +kernel
theorem dX8_whatKind_38 : decode cX8_whatKind 38 = .ok (.iload_n 2, 1) := by decide +kernel
theorem dX8_whatKind_39 : decode cX8_whatKind 39 = .ok (.aload_n 0, 1) := by decide +kernel
theorem dX8_whatKind_40 : decode cX8_whatKind 40 = .ok (.getfield 36, 3) := by decide +kernel
theorem dX8_whatKind_43 : decode cX8_whatKind 43 = .ok (.invokevirtual 274, 3) := by decide +kernel
theorem dX8_whatKind_46 : decode cX8_whatKind 46 = .ok (.goto 16, 3) := by decide +kernel
theorem dX8_whatKind_49 : decode cX8_whatKind 49 = .ok (.aload_n 0, 1) := by decide +kernel
theorem dX8_whatKind_50 : decode cX8_whatKind 50 = .ok (.getfield 59, 3) := by decide +kernel
theorem dX8_whatKind_53 : decode cX8_whatKind 53 = .ok (.iload_n 1, 1) := by decide +kernel
theorem dX8_whatKind_54 : decode cX8_whatKind 54 = .ok (.iload_n 2, 1) := by decide +kernel
theorem dX8_whatKind_55 : decode cX8_whatKind 55 = .ok (.aload_n 0, 1) := by decide +kernel
theorem dX8_whatKind_56 : decode cX8_whatKind 56 = .ok (.getfield 36, 3) := by decide +kernel
theorem dX8_whatKind_59 : decode cX8_whatKind 59 = .ok (.invokevirtual 278, 3) := by decide +kernel
theorem dX8_whatKind_62 : decode cX8_whatKind 62 = .ok (.ireturn, 1) := by decide +kernel
theorem dX8_jug_0 : decode cX8_jug 0 = .ok (.iload_n 1, 1) := by decide +kernel
theorem dX8_jug_1 : decode cX8_jug 1 = .ok (.ifCond .lt 12, 3) := by decide +kernel
theorem dX8_jug_4 : decode cX8_jug 4 = .ok (.iload_n 2, 1) := by decide +kernel
theorem dX8_jug_5 : decode cX8_jug 5 = .ok (.ifCond .lt 8, 3) := by decide +kernel
theorem dX8_jug_8 : decode cX8_jug 8 = .ok (.iload_n 3, 1) := by decide +kernel
theorem dX8_jug_9 : decode cX8_jug 9 = .ok (.iconst 2, 1) := by decide +kernel
theorem dX8_jug_10 : decode cX8_jug 10 = .ok (.if_icmp .ge 8, 3) := by decide +kernel
theorem dX8_jug_13 : decode cX8_jug 13 = .ok (.bipush (-4), 2) := by decide +kernel
theorem dX8_jug_15 : decode cX8_jug 15 = .ok (.goto 4, 3) := by decide +kernel
theorem dX8_jug_18 : decode cX8_jug 18 = .ok (.iconst 0, 1) := by decide +kernel
theorem dX8_jug_19 : decode cX8_jug 19 = .ok (.istore 5, 2) := by decide +kernel
theorem dX8_jug_21 : decode cX8_jug 21 = .ok (.iload_n 1, 1) := by decide +kernel
theorem dX8_jug_22 : decode cX8_jug 22 = .ok (.bipush 8, 2) := by decide +kernel
theorem dX8_jug_24 : decode cX8_jug 24 = .ok (.if_icmp .gt 15, 3) := by decide +kernel
theorem dX8_jug_27 : decode cX8_jug 27 = .ok (.iload_n 2, 1) := by decide +kernel
theorem dX8_jug_28 : decode cX8_jug 28 = .ok (.bipush 8, 2) := by decide +kernel
theorem dX8_jug_30 : decode cX8_jug 30 = .ok (.if_icmp .gt 9, 3) := by decide +kernel
theorem dX8_jug_33 : decode cX8_jug 33 = .ok (.iload_n 3, 1) := by decide +kernel
theorem dX8_jug_34 : decode cX8_jug 34 = .ok (.bipush 20, 2) := by decide +kernel
theorem dX8_jug_36 : decode cX8_jug 36 = .ok (.if_icmp .le 8, 3) := by decide +kernel
theorem dX8_jug_39 : decode cX8_jug 39 = .ok (.bipush (-6), 2) := by decide +kernel
theorem dX8_jug_41 : decode cX8_jug 41 = .ok (.goto 4, 3) := by decide +kernel
theorem dX8_jug_44 : decode cX8_jug 44 = .ok (.iconst 0, 1) := by decide +kernel
theorem dX8_jug_45 : decode cX8_jug 45 = .ok (.istore 6, 2) := by decide +kernel
theorem dX8_jug_47 : decode cX8_jug 47 = .ok (.iload 5, 2) := by decide +kernel
theorem dX8_jug_49 : decode cX8_jug 49 = .ok (.iload 6, 2) := by decide +kernel
theorem dX8_jug_51 : decode cX8_jug 51 = .ok (.iload 4, 2) := by decide +kernel
theorem dX8_jug_53 : decode cX8_jug 53 = .ok (.iconst 1, 1) := by decide +kernel
theorem dX8_jug_54 : decode cX8_jug 54 = .ok (.invokestatic 97, 3) := by decide +kernel
theorem dX8_jug_57 : decode cX8_jug 57 = .ok (.invokestatic 71, 3) := by decide +kernel
theorem dX8_jug_60 : decode cX8_jug 60 = .ok (.istore 7, 2) := by decide +kernel
theorem dX8_jug_62 : decode cX8_jug 62 = .ok (.iload 7, 2) := by decide +kernel
theorem dX8_jug_64 : decode cX8_jug 64 = .ok (.ifCond .eq 15, 3) := by decide +kernel
theorem dX8_jug_67 : decode cX8_jug 67 = .ok (.ldc2_w 281, 3) := by decide +kernel
theorem dX8_jug_70 : decode cX8_jug 70 = .ok (.aload_n 0, 1) := by decide +kernel
theorem dX8_jug_71 : decode cX8_jug 71 = .ok (.iload 7, 2) := by decide +kernel
theorem dX8_jug_73 : decode cX8_jug 73 = .ok (.invokevirtual 74, 3) := by decide +kernel
theorem dX8_jug_76 : decode cX8_jug 76 = .ok (.i2l, 1) := by decide +kernel
theorem dX8_jug_77 : decode cX8_jug 77 = .ok (.lsub, 1) := by decide +kernel
theorem dX8_jug_78 : decode cX8_jug 78 = .ok (.lreturn, 1) := by decide +kernel
theorem dX8_jug_79 : decode cX8_jug 79 = .ok (.iload_n 1, 1) := by decide +kernel
theorem dX8_jug_80 : decode cX8_jug 80 = .ok (.iload_n 2, 1) := by decide +kernel
theorem dX8_jug_81 : decode cX8_jug 81 = .ok (.iload_n 3, 1) := by decide +kernel
theorem dX8_jug_82 : decode cX8_jug 82 = .ok (.invokestatic 283, 3) := by decide +kernel
theorem dX8_jug_85 : decode cX8_jug 85 = .ok (.iload_n 3, 1) := by decide +kernel
theorem dX8_jug_86 : decode cX8_jug 86 = .ok (.iload_n 1, 1) := by decide +kernel
theorem dX8_jug_87 : decode cX8_jug 87 = .ok (.invokestatic 289, 3) := by decide +kernel
theorem dX8_jug_90 : decode cX8_jug 90 = .ok (.iload 4, 2) := by decide +kernel
theorem dX8_jug_92 : decode cX8_jug 92 = .ok (.invokestatic 293, 3) := by decide +kernel
theorem dX8_jug_95 : decode cX8_jug 95 = .ok (.lreturn, 1) := by decide +kernel
theorem dX8_meetings_0 : decode cX8_meetings 0 = .ok (.aload_n 0, 1) := by decide +kernel
theorem dX8_meetings_1 : decode cX8_meetings 1 = .ok (.iload_n 1, 1) := by decide +kernel
theorem dX8_meetings_2 : decode cX8_meetings 2 = .ok (.iload_n 2, 1) := by decide +kernel
theorem dX8_meetings_3 : decode cX8_meetings 3 = .ok (.invokevirtual 135, 3) := by decide +kernel
theorem dX8_meetings_6 : decode cX8_meetings 6 = .ok (.aload_n 0, 1) := by decide +kernel
theorem dX8_meetings_7 : decode cX8_meetings 7 = .ok (.iload_n 3, 1) := by decide +kernel
theorem dX8_meetings_8 : decode cX8_meetings 8 = .ok (.invokevirtual 119, 3) := by decide +kernel
theorem dX8_meetings_11 : decode cX8_meetings 11 = .ok (.iconst 0, 1) := by decide +kernel
theorem dX8_meetings_12 : decode cX8_meetings 12 = .ok (.invokestatic 71, 3) := by decide +kernel
theorem dX8_meetings_15 : decode cX8_meetings 15 = .ok (.istore 7, 2) := by decide +kernel
theorem dX8_meetings_17 : decode cX8_meetings 17 = .ok (.iload 4, 2) := by decide +kernel
theorem dX8_meetings_19 : decode cX8_meetings 19 = .ok (.ifCond .lt 9, 3) := by decide +kernel
theorem dX8_meetings_22 : decode cX8_meetings 22 = .ok (.iload 5, 2) := by decide +kernel
theorem dX8_meetings_24 : decode cX8_meetings 24 = .ok (.iconst 2, 1) := by decide +kernel
theorem dX8_meetings_25 : decode cX8_meetings 25 = .ok (.if_icmp .ge 8, 3) := by decide +kernel
theorem dX8_meetings_28 : decode cX8_meetings 28 = .ok (.bipush (-4), 2) := by decide +kernel
theorem dX8_meetings_30 : decode cX8_meetings 30 = .ok (.goto 4, 3) := by decide +kernel
theorem dX8_meetings_33 : decode cX8_meetings 33 = .ok (.iconst 0, 1) := by decide +kernel
theorem dX8_meetings_34 : decode cX8_meetings 34 = .ok (.istore 8, 2) := by decide +kernel
theorem dX8_meetings_36 : decode cX8_meetings 36 = .ok (.iload 4, 2) := by decide +kernel
theorem dX8_meetings_38 : decode cX8_meetings 38 = .ok (.bipush 7, 2) := by decide +kernel
theorem dX8_meetings_40 : decode cX8_meetings 40 = .ok (.if_icmp .gt 10, 3) := by decide +kernel
theorem dX8_meetings_43 : decode cX8_meetings 43 = .ok (.iload 5, 2) := by decide +kernel
theorem dX8_meetings_45 : decode cX8_meetings 45 = .ok (.bipush 20, 2) := by decide +kernel
theorem dX8_meetings_47 : decode cX8_meetings 47 = .ok (.if_icmp .le 8, 3) := by decide +kernel
theorem dX8_meetings_50 : decode cX8_meetings 50 = .ok (.bipush (-6), 2) := by decide +kernel
theorem dX8_meetings_52 : decode cX8_meetings 52 = .ok (.goto 4, 3) := by decide +kernel
theorem dX8_meetings_55 : decode cX8_meetings 55 = .ok (.iconst 0, 1) := by decide +kernel
theorem dX8_meetings_56 : decode cX8_meetings 56 = .ok (.istore 9, 2) := by decide +kernel
theorem dX8_meetings_58 : decode cX8_meetings 58 = .ok (.iload 7, 2) := by decide +kernel
theorem dX8_meetings_60 : decode cX8_meetings 60 = .ok (.iload 8, 2) := by decide +kernel
theorem dX8_meetings_62 : decode cX8_meetings 62 = .ok (.iload 9, 2) := by decide +kernel
theorem dX8_meetings_64 : decode cX8_meetings 64 = .ok (.invokestatic 71, 3) := by decide +kernel
theorem dX8_meetings_67 : decode cX8_meetings 67 = .ok (.iload 6, 2) := by decide +kernel
theorem dX8_meetings_69 : decode cX8_meetings 69 = .ok (.iconst 1, 1) := by decide +kernel
theorem dX8_meetings_70 : decode cX8_meetings 70 = .ok (.invokestatic 97, 3) := by decide +kernel
theorem dX8_meetings_73 : decode cX8_meetings 73 = .ok (.iconst 0, 1) := by decide +kernel
theorem dX8_meetings_74 : decode cX8_meetings 74 = .ok (.invokestatic 71, 3) := by decide +kernel
theorem dX8_meetings_77 : decode cX8_meetings 77 = .ok (.istore 10, 2) := by decide +kernel
theorem dX8_meetings_79 : decode cX8_meetings 79 = .ok (.iload 10, 2) := by decide +kernel
theorem dX8_meetings_81 : decode cX8_meetings 81 = .ok (.ifCond .eq 15, 3) := by decide +kernel
theorem dX8_meetings_84 : decode cX8_meetings 84 = .ok (.ldc2_w 281, 3) := by decide +kernel
theorem dX8_meetings_87 : decode cX8_meetings 87 = .ok (.aload_n 0, 1) := by decide +kernel
theorem dX8_meetings_88 : decode cX8_meetings 88 = .ok (.iload 10, 2) := by decide +kernel
theorem dX8_meetings_90 : decode cX8_meetings 90 = .ok (.invokevirtual 74, 3) := by decide +kernel
theorem dX8_meetings_93 : decode cX8_meetings 93 = .ok (.i2l, 1) := by decide +kernel
theorem dX8_meetings_94 : decode cX8_meetings 94 = .ok (.lsub, 1) := by decide +kernel
theorem dX8_meetings_95 : decode cX8_meetings 95 = .ok (.lreturn, 1) := by decide +kernel
theorem dX8_meetings_96 : decode cX8_meetings 96 = .ok (.aload_n 0, 1) := by decide +kernel
theorem dX8_meetings_97 : decode cX8_meetings 97 = .ok (.getfield 59, 3) := by decide +kernel
theorem dX8_meetings_100 : decode cX8_meetings 100 = .ok (.iload_n 1, 1) := by decide +kernel
theorem dX8_meetings_101 : decode cX8_meetings 101 = .ok (.iload_n 2, 1) := by decide +kernel
theorem dX8_meetings_102 : decode cX8_meetings 102 = .ok (.iload_n 3, 1) := by decide +kernel
theorem dX8_meetings_103 : decode cX8_meetings 103 = .ok (.iload 4, 2) := by decide +kernel
theorem dX8_meetings_105 : decode cX8_meetings 105 = .ok (.iload 5, 2) := by decide +kernel
theorem dX8_meetings_107 : decode cX8_meetings 107 = .ok (.invokevirtual 297, 3) := by decide +kernel
theorem dX8_meetings_110 : decode cX8_meetings 110 = .ok (.iload 5, 2) := by decide +kernel
theorem dX8_meetings_112 : decode cX8_meetings 112 = .ok (.iload 4, 2) := by decide +kernel
theorem dX8_meetings_114 : decode cX8_meetings 114 = .ok (.invokestatic 289, 3) := by decide +kernel
theorem dX8_meetings_117 : decode cX8_meetings 117 = .ok (.iload 6, 2) := by decide +kernel
theorem dX8_meetings_119 : decode cX8_meetings 119 = .ok (.invokestatic 293, 3) := by decide +kernel
theorem dX8_meetings_122 : decode cX8_meetings 122 = .ok (.lreturn, 1) := by decide +kernel
theorem dX8_lots_0 : decode cX8_lots 0 = .ok (.iload_n 1, 1) := by decide +kernel
theorem dX8_lots_1 : decode cX8_lots 1 = .ok (.iconst 1, 1) := by decide +kernel
theorem dX8_lots_2 : decode cX8_lots 2 = .ok (.bipush 20, 2) := by decide +kernel
theorem dX8_lots_4 : decode cX8_lots 4 = .ok (.invokestatic 63, 3) := by decide +kernel
theorem dX8_lots_7 : decode cX8_lots 7 = .ok (.iload_n 3, 1) := by decide +kernel
theorem dX8_lots_8 : decode cX8_lots 8 = .ok (.iconst 1, 1) := by decide +kernel
theorem dX8_lots_9 : decode cX8_lots 9 = .ok (.invokestatic 97, 3) := by decide +kernel
theorem dX8_lots_12 : decode cX8_lots 12 = .ok (.iconst 0, 1) := by decide +kernel
theorem dX8_lots_13 : decode cX8_lots 13 = .ok (.invokestatic 71, 3) := by decide +kernel
theorem dX8_lots_16 : decode cX8_lots 16 = .ok (.istore 4, 2) := by decide +kernel
theorem dX8_lots_18 : decode cX8_lots 18 = .ok (.iload 4, 2) := by decide +kernel
theorem dX8_lots_20 : decode cX8_lots 20 = .ok (.ifCond .eq 12, 3) := by decide +kernel
theorem dX8_lots_23 : decode cX8_lots 23 = .ok (.aload_n 0, 1) := by decide +kernel
theorem dX8_lots_24 : decode cX8_lots 24 = .ok (.iload 4, 2) := by decide +kernel
theorem dX8_lots_26 : decode cX8_lots 26 = .ok (.invokevirtual 74, 3) := by decide +kernel
theorem dX8_lots_29 : decode cX8_lots 29 = .ok (.goto 13, 3) := by decide +kernel
theorem dX8_lots_32 : decode cX8_lots 32 = .ok (.aload_n 0, 1) := by decide +kernel
theorem dX8_lots_33 : decode cX8_lots 33 = .ok (.getfield 59, 3) := by decide +kernel
theorem dX8_lots_36 : decode cX8_lots 36 = .ok (.iload_n 1, 1) := by decide +kernel
theorem dX8_lots_37 : decode cX8_lots 37 = .ok (.iload_n 2, 1) := by decide +kernel
theorem dX8_lots_38 : decode cX8_lots 38 = .ok (.iload_n 3, 1) := by decide +kernel
theorem dX8_lots_39 : decode cX8_lots 39 = .ok (.invokevirtual 301, 3) := by decide +kernel
theorem dX8_lots_42 : decode cX8_lots 42 = .ok (.ireturn, 1) := by decide +kernel
theorem dX8_deepest_0 : decode cX8_deepest 0 = .ok (.iload_n 1, 1) := by decide +kernel
theorem dX8_deepest_1 : decode cX8_deepest 1 = .ok (.invokestatic 169, 3) := by decide +kernel
theorem dX8_deepest_4 : decode cX8_deepest 4 = .ok (.istore_n 2, 1) := by decide +kernel
theorem dX8_deepest_5 : decode cX8_deepest 5 = .ok (.iload_n 2, 1) := by decide +kernel
theorem dX8_deepest_6 : decode cX8_deepest 6 = .ok (.ifCond .eq 11, 3) := by decide +kernel
theorem dX8_deepest_9 : decode cX8_deepest 9 = .ok (.aload_n 0, 1) := by decide +kernel
theorem dX8_deepest_10 : decode cX8_deepest 10 = .ok (.iload_n 2, 1) := by decide +kernel
theorem dX8_deepest_11 : decode cX8_deepest 11 = .ok (.invokevirtual 74, 3) := by decide +kernel
theorem dX8_deepest_14 : decode cX8_deepest 14 = .ok (.goto 11, 3) := by decide +kernel
theorem dX8_deepest_17 : decode cX8_deepest 17 = .ok (.aload_n 0, 1) := by decide +kernel
theorem dX8_deepest_18 : decode cX8_deepest 18 = .ok (.getfield 52, 3) := by decide +kernel
theorem dX8_deepest_21 : decode cX8_deepest 21 = .ok (.iload_n 1, 1) := by decide +kernel
theorem dX8_deepest_22 : decode cX8_deepest 22 = .ok (.invokevirtual 304, 3) := by decide +kernel
theorem dX8_deepest_25 : decode cX8_deepest 25 = .ok (.ireturn, 1) := by decide +kernel
theorem dX8_can_0 : decode cX8_can 0 = .ok (.iload_n 1, 1) := by decide +kernel
theorem dX8_can_1 : decode cX8_can 1 = .ok (.iconst 0, 1) := by decide +kernel
theorem dX8_can_2 : decode cX8_can 2 = .ok (.bipush 99, 2) := by decide +kernel
theorem dX8_can_4 : decode cX8_can 4 = .ok (.invokestatic 63, 3) := by decide +kernel
theorem dX8_can_7 : decode cX8_can 7 = .ok (.istore_n 2, 1) := by decide +kernel
theorem dX8_can_8 : decode cX8_can 8 = .ok (.iload_n 2, 1) := by decide +kernel
theorem dX8_can_9 : decode cX8_can 9 = .ok (.ifCond .eq 11, 3) := by decide +kernel
theorem dX8_can_12 : decode cX8_can 12 = .ok (.aload_n 0, 1) := by decide +kernel
theorem dX8_can_13 : decode cX8_can 13 = .ok (.iload_n 2, 1) := by decide +kernel
theorem dX8_can_14 : decode cX8_can 14 = .ok (.invokevirtual 74, 3) := by decide +kernel
theorem dX8_can_17 : decode cX8_can 17 = .ok (.goto 11, 3) := by decide +kernel
theorem dX8_can_20 : decode cX8_can 20 = .ok (.aload_n 0, 1) := by decide +kernel
theorem dX8_can_21 : decode cX8_can 21 = .ok (.getfield 52, 3) := by decide +kernel
theorem dX8_can_24 : decode cX8_can 24 = .ok (.iload_n 1, 1) := by decide +kernel
theorem dX8_can_25 : decode cX8_can 25 = .ok (.invokevirtual 307, 3) := by decide +kernel
theorem dX8_can_28 : decode cX8_can 28 = .ok (.ireturn, 1) := by decide +kernel
theorem dX8_pairs_0 : decode cX8_pairs 0 = .ok (.iload_n 1, 1) := by decide +kernel
theorem dX8_pairs_1 : decode cX8_pairs 1 = .ok (.iconst 0, 1) := by decide +kernel
theorem dX8_pairs_2 : decode cX8_pairs 2 = .ok (.bipush 99, 2) := by decide +kernel
theorem dX8_pairs_4 : decode cX8_pairs 4 = .ok (.invokestatic 63, 3) := by decide +kernel
theorem dX8_pairs_7 : decode cX8_pairs 7 = .ok (.istore_n 2, 1) := by decide +kernel
theorem dX8_pairs_8 : decode cX8_pairs 8 = .ok (.iload_n 2, 1) := by decide +kernel
theorem dX8_pairs_9 : decode cX8_pairs 9 = .ok (.ifCond .eq 11, 3) := by decide +kernel
theorem dX8_pairs_12 : decode cX8_pairs 12 = .ok (.aload_n 0, 1) := by decide +kernel
theorem dX8_pairs_13 : decode cX8_pairs 13 = .ok (.iload_n 2, 1) := by decide +kernel
theorem dX8_pairs_14 : decode cX8_pairs 14 = .ok (.invokevirtual 74, 3) := by decide +kernel
theorem dX8_pairs_17 : decode cX8_pairs 17 = .ok (.goto 11, 3) := by decide +kernel
theorem dX8_pairs_20 : decode cX8_pairs 20 = .ok (.aload_n 0, 1) := by decide +kernel
theorem dX8_pairs_21 : decode cX8_pairs 21 = .ok (.getfield 52, 3) := by decide +kernel
theorem dX8_pairs_24 : decode cX8_pairs 24 = .ok (.iload_n 1, 1) := by decide +kernel
theorem dX8_pairs_25 : decode cX8_pairs 25 = .ok (.invokevirtual 310, 3) := by decide +kernel
theorem dX8_pairs_28 : decode cX8_pairs 28 = .ok (.ireturn, 1) := by decide +kernel
theorem dX8_worst_0 : decode cX8_worst 0 = .ok (.iload_n 1, 1) := by decide +kernel
theorem dX8_worst_1 : decode cX8_worst 1 = .ok (.iconst 2, 1) := by decide +kernel
theorem dX8_worst_2 : decode cX8_worst 2 = .ok (.invokestatic 97, 3) := by decide +kernel
theorem dX8_worst_5 : decode cX8_worst 5 = .ok (.istore_n 2, 1) := by decide +kernel
theorem dX8_worst_6 : decode cX8_worst 6 = .ok (.iload_n 2, 1) := by decide +kernel
theorem dX8_worst_7 : decode cX8_worst 7 = .ok (.ifCond .eq 9, 3) := by decide +kernel
theorem dX8_worst_10 : decode cX8_worst 10 = .ok (.aload_n 0, 1) := by decide +kernel
theorem dX8_worst_11 : decode cX8_worst 11 = .ok (.iload_n 2, 1) := by decide +kernel
theorem dX8_worst_12 : decode cX8_worst 12 = .ok (.invokevirtual 74, 3) := by decide +kernel
theorem dX8_worst_15 : decode cX8_worst 15 = .ok (.ireturn, 1) := by decide +kernel
theorem dX8_worst_16 : decode cX8_worst 16 = .ok (.iload_n 1, 1) := by decide +kernel
theorem dX8_worst_17 : decode cX8_worst 17 = .ok (.iconst 2, 1) := by decide +kernel
theorem dX8_worst_18 : decode cX8_worst 18 = .ok (.if_icmp .ne 13, 3) := by decide +kernel
theorem dX8_worst_21 : decode cX8_worst 21 = .ok (.aload_n 0, 1) := by decide +kernel
theorem dX8_worst_22 : decode cX8_worst 22 = .ok (.getfield 52, 3) := by decide +kernel
theorem dX8_worst_25 : decode cX8_worst 25 = .ok (.invokevirtual 313, 3) := by decide +kernel
theorem dX8_worst_28 : decode cX8_worst 28 = .ok (.goto 19, 3) := by decide +kernel
theorem dX8_worst_31 : decode cX8_worst 31 = .ok (.aload_n 0, 1) := by decide +kernel
theorem dX8_worst_32 : decode cX8_worst 32 = .ok (.getfield 52, 3) := by decide +kernel
theorem dX8_worst_35 : decode cX8_worst 35 = .ok (.iload_n 1, 1) := by decide +kernel
theorem dX8_worst_36 : decode cX8_worst 36 = .ok (.ifCond .ne 7, 3) := by decide +kernel
theorem dX8_worst_39 : decode cX8_worst 39 = .ok (.iconst 1, 1) := by decide +kernel
theorem dX8_worst_40 : decode cX8_worst 40 = .ok (.goto 4, 3) := by decide +kernel
theorem dX8_worst_43 : decode cX8_worst 43 = .ok (.iconst 0, 1) := by decide +kernel
theorem dX8_worst_44 : decode cX8_worst 44 = .ok (.invokevirtual 316, 3) := by decide +kernel
theorem dX8_worst_47 : decode cX8_worst 47 = .ok (.ireturn, 1) := by decide +kernel
theorem dX8_fullest_0 : decode cX8_fullest 0 = .ok (.iload_n 1, 1) := by decide +kernel
theorem dX8_fullest_1 : decode cX8_fullest 1 = .ok (.iconst 1, 1) := by decide +kernel
theorem dX8_fullest_2 : decode cX8_fullest 2 = .ok (.invokestatic 97, 3) := by decide +kernel
theorem dX8_fullest_5 : decode cX8_fullest 5 = .ok (.istore_n 2, 1) := by decide +kernel
theorem dX8_fullest_6 : decode cX8_fullest 6 = .ok (.iload_n 2, 1) := by decide +kernel
theorem dX8_fullest_7 : decode cX8_fullest 7 = .ok (.ifCond .eq 9, 3) := by decide +kernel
theorem dX8_fullest_10 : decode cX8_fullest 10 = .ok (.aload_n 0, 1) := by decide +kernel
theorem dX8_fullest_11 : decode cX8_fullest 11 = .ok (.iload_n 2, 1) := by decide +kernel
theorem dX8_fullest_12 : decode cX8_fullest 12 = .ok (.invokevirtual 74, 3) := by decide +kernel
theorem dX8_fullest_15 : decode cX8_fullest 15 = .ok (.ireturn, 1) := by decide +kernel
theorem dX8_fullest_16 : decode cX8_fullest 16 = .ok (.aload_n 0, 1) := by decide +kernel
theorem dX8_fullest_17 : decode cX8_fullest 17 = .ok (.getfield 52, 3) := by decide +kernel
theorem dX8_fullest_20 : decode cX8_fullest 20 = .ok (.invokevirtual 320, 3) := by decide +kernel
theorem dX8_fullest_23 : decode cX8_fullest 23 = .ok (.istore_n 3, 1) := by decide +kernel
theorem dX8_fullest_24 : decode cX8_fullest 24 = .ok (.iload_n 1, 1) := by decide +kernel
theorem dX8_fullest_25 : decode cX8_fullest 25 = .ok (.ifCond .ne 7, 3) := by decide +kernel
theorem dX8_fullest_28 : decode cX8_fullest 28 = .ok (.iload_n 3, 1) := by decide +kernel
theorem dX8_fullest_29 : decode cX8_fullest 29 = .ok (.goto 11, 3) := by decide +kernel
theorem dX8_fullest_32 : decode cX8_fullest 32 = .ok (.aload_n 0, 1) := by decide +kernel
theorem dX8_fullest_33 : decode cX8_fullest 33 = .ok (.getfield 52, 3) := by decide +kernel
theorem dX8_fullest_36 : decode cX8_fullest 36 = .ok (.iload_n 3, 1) := by decide +kernel
theorem dX8_fullest_37 : decode cX8_fullest 37 = .ok (.invokevirtual 323, 3) := by decide +kernel
theorem dX8_fullest_40 : decode cX8_fullest 40 = .ok (.ireturn, 1) := by decide +kernel
theorem dX8_thickest_0 : decode cX8_thickest 0 = .ok (.aload_n 0, 1) := by decide +kernel
theorem dX8_thickest_1 : decode cX8_thickest 1 = .ok (.getfield 52, 3) := by decide +kernel
theorem dX8_thickest_4 : decode cX8_thickest 4 = .ok (.invokevirtual 326, 3) := by decide +kernel
theorem dX8_thickest_7 : decode cX8_thickest 7 = .ok (.ireturn, 1) := by decide +kernel
theorem dX8_mildest_0 : decode cX8_mildest 0 = .ok (.aload_n 0, 1) := by decide +kernel
theorem dX8_mildest_1 : decode cX8_mildest 1 = .ok (.getfield 52, 3) := by decide +kernel
theorem dX8_mildest_4 : decode cX8_mildest 4 = .ok (.invokevirtual 329, 3) := by decide +kernel
theorem dX8_mildest_7 : decode cX8_mildest 7 = .ok (.ireturn, 1) := by decide +kernel
theorem dX8_bare_0 : decode cX8_bare 0 = .ok (.aload_n 0, 1) := by decide +kernel
theorem dX8_bare_1 : decode cX8_bare 1 = .ok (.getfield 52, 3) := by decide +kernel
theorem dX8_bare_4 : decode cX8_bare 4 = .ok (.invokevirtual 332, 3) := by decide +kernel
theorem dX8_bare_7 : decode cX8_bare 7 = .ok (.ireturn, 1) := by decide +kernel
theorem dX8_enemy_0 : decode cX8_enemy 0 = .ok (.aload_n 0, 1) := by decide +kernel
theorem dX8_enemy_1 : decode cX8_enemy 1 = .ok (.iload_n 1, 1) := by decide +kernel
theorem dX8_enemy_2 : decode cX8_enemy 2 = .ok (.invokevirtual 94, 3) := by decide +kernel
theorem dX8_enemy_5 : decode cX8_enemy 5 = .ok (.istore_n 2, 1) := by decide +kernel
theorem dX8_enemy_6 : decode cX8_enemy 6 = .ok (.iload_n 2, 1) := by decide +kernel
theorem dX8_enemy_7 : decode cX8_enemy 7 = .ok (.ifCond .eq 11, 3) := by decide +kernel
theorem dX8_enemy_10 : decode cX8_enemy 10 = .ok (.aload_n 0, 1) := by decide +kernel
theorem dX8_enemy_11 : decode cX8_enemy 11 = .ok (.iload_n 2, 1) := by decide +kernel
theorem dX8_enemy_12 : decode cX8_enemy 12 = .ok (.invokevirtual 74, 3) := by decide +kernel
theorem dX8_enemy_15 : decode cX8_enemy 15 = .ok (.goto 11, 3) := by decide +kernel
theorem dX8_enemy_18 : decode cX8_enemy 18 = .ok (.aload_n 0, 1) := by decide +kernel
theorem dX8_enemy_19 : decode cX8_enemy 19 = .ok (.getfield 52, 3) := by decide +kernel
theorem dX8_enemy_22 : decode cX8_enemy 22 = .ok (.iload_n 1, 1) := by decide +kernel
theorem dX8_enemy_23 : decode cX8_enemy 23 = .ok (.invokevirtual 335, 3) := by decide +kernel
theorem dX8_enemy_26 : decode cX8_enemy 26 = .ok (.ireturn, 1) := by decide +kernel
theorem dX8_mean_0 : decode cX8_mean 0 = .ok (.iload_n 1, 1) := by decide +kernel
theorem dX8_mean_1 : decode cX8_mean 1 = .ok (.iconst 1, 1) := by decide +kernel
theorem dX8_mean_2 : decode cX8_mean 2 = .ok (.invokestatic 97, 3) := by decide +kernel
theorem dX8_mean_5 : decode cX8_mean 5 = .ok (.istore_n 2, 1) := by decide +kernel
theorem dX8_mean_6 : decode cX8_mean 6 = .ok (.iload_n 2, 1) := by decide +kernel
theorem dX8_mean_7 : decode cX8_mean 7 = .ok (.ifCond .eq 14, 3) := by decide +kernel
theorem dX8_mean_10 : decode cX8_mean 10 = .ok (.ldc2_w 281, 3) := by decide +kernel
theorem dX8_mean_13 : decode cX8_mean 13 = .ok (.aload_n 0, 1) := by decide +kernel
theorem dX8_mean_14 : decode cX8_mean 14 = .ok (.iload_n 2, 1) := by decide +kernel
theorem dX8_mean_15 : decode cX8_mean 15 = .ok (.invokevirtual 74, 3) := by decide +kernel
theorem dX8_mean_18 : decode cX8_mean 18 = .ok (.i2l, 1) := by decide +kernel
theorem dX8_mean_19 : decode cX8_mean 19 = .ok (.lsub, 1) := by decide +kernel
theorem dX8_mean_20 : decode cX8_mean 20 = .ok (.lreturn, 1) := by decide +kernel
theorem dX8_mean_21 : decode cX8_mean 21 = .ok (.aload_n 0, 1) := by decide +kernel
theorem dX8_mean_22 : decode cX8_mean 22 = .ok (.getfield 44, 3) := by decide +kernel
theorem dX8_mean_25 : decode cX8_mean 25 = .ok (.invokevirtual 141, 3) := by decide +kernel
theorem dX8_mean_28 : decode cX8_mean 28 = .ok (.istore_n 3, 1) := by decide +kernel
theorem dX8_mean_29 : decode cX8_mean 29 = .ok (.aload_n 0, 1) := by decide +kernel
theorem dX8_mean_30 : decode cX8_mean 30 = .ok (.getfield 44, 3) := by decide +kernel
theorem dX8_mean_33 : decode cX8_mean 33 = .ok (.invokevirtual 154, 3) := by decide +kernel
theorem dX8_mean_36 : decode cX8_mean 36 = .ok (.i2l, 1) := by decide +kernel
theorem dX8_mean_37 : decode cX8_mean 37 = .ok (.iconst 1, 1) := by decide +kernel
theorem dX8_mean_38 : decode cX8_mean 38 = .ok (.iload_n 3, 1) := by decide +kernel
theorem dX8_mean_39 : decode cX8_mean 39 = .ok (.iload_n 3, 1) := by decide +kernel
theorem dX8_mean_40 : decode cX8_mean 40 = .ok (.iconst 1, 1) := by decide +kernel
theorem dX8_mean_41 : decode cX8_mean 41 = .ok (.isub, 1) := by decide +kernel
theorem dX8_mean_42 : decode cX8_mean 42 = .ok (.imul, 1) := by decide +kernel
theorem dX8_mean_43 : decode cX8_mean 43 = .ok (.iconst 2, 1) := by decide +kernel
theorem dX8_mean_44 : decode cX8_mean 44 = .ok (.idiv, 1) := by decide +kernel
theorem dX8_mean_45 : decode cX8_mean 45 = .ok (.invokestatic 338, 3) := by decide +kernel
theorem dX8_mean_48 : decode cX8_mean 48 = .ok (.i2l, 1) := by decide +kernel
theorem dX8_mean_49 : decode cX8_mean 49 = .ok (.iload_n 1, 1) := by decide +kernel
theorem dX8_mean_50 : decode cX8_mean 50 = .ok (.invokestatic 293, 3) := by decide +kernel
theorem dX8_mean_53 : decode cX8_mean 53 = .ok (.lreturn, 1) := by decide +kernel
theorem dX8_refused_0 : decode cX8_refused 0 = .ok (.aload_n 0, 1) := by decide +kernel
theorem dX8_refused_1 : decode cX8_refused 1 = .ok (.getfield 40, 3) := by decide +kernel
theorem dX8_refused_4 : decode cX8_refused 4 = .ok (.iload_n 1, 1) := by decide +kernel
theorem dX8_refused_5 : decode cX8_refused 5 = .ok (.ineg, 1) := by decide +kernel
theorem dX8_refused_6 : decode cX8_refused 6 = .ok (.aload_n 0, 1) := by decide +kernel
theorem dX8_refused_7 : decode cX8_refused 7 = .ok (.getfield 40, 3) := by decide +kernel
theorem dX8_refused_10 : decode cX8_refused 10 = .ok (.iload_n 1, 1) := by decide +kernel
theorem dX8_refused_11 : decode cX8_refused 11 = .ok (.ineg, 1) := by decide +kernel
theorem dX8_refused_12 : decode cX8_refused 12 = .ok (.invokestatic 162, 3) := by decide +kernel
theorem dX8_refused_15 : decode cX8_refused 15 = .ok (.iconst 1, 1) := by decide +kernel
theorem dX8_refused_16 : decode cX8_refused 16 = .ok (.iadd, 1) := by decide +kernel
theorem dX8_refused_17 : decode cX8_refused 17 = .ok (.invokestatic 343, 3) := by decide +kernel
theorem dX8_refused_20 : decode cX8_refused 20 = .ok (.iload_n 1, 1) := by decide +kernel
theorem dX8_refused_21 : decode cX8_refused 21 = .ok (.ireturn, 1) := by decide +kernel
theorem dX8_keeperRefusal_0 : decode cX8_keeperRefusal 0 = .ok (.aload_n 0, 1) := by decide +kernel
theorem dX8_keeperRefusal_1 : decode cX8_keeperRefusal 1 = .ok (.getfield 44, 3) := by decide +kernel
theorem dX8_keeperRefusal_4 : decode cX8_keeperRefusal 4 = .ok (.iload_n 1, 1) := by decide +kernel
theorem dX8_keeperRefusal_5 : decode cX8_keeperRefusal 5 = .ok (.invokevirtual 347, 3) := by decide +kernel
theorem dX8_keeperRefusal_8 : decode cX8_keeperRefusal 8 = .ok (.ifCond .eq 7, 3) := by decide +kernel
theorem dX8_keeperRefusal_11 : decode cX8_keeperRefusal 11 = .ok (.iconst 0, 1) := by decide +kernel
theorem dX8_keeperRefusal_12 : decode cX8_keeperRefusal 12 = .ok (.goto 4, 3) := by decide +kernel
theorem dX8_keeperRefusal_15 : decode cX8_keeperRefusal 15 = .ok (.iconst (-1), 1) := by decide +kernel
theorem dX8_keeperRefusal_16 : decode cX8_keeperRefusal 16 = .ok (.ireturn, 1) := by decide +kernel
theorem dX8_letterRefusal_0 : decode cX8_letterRefusal 0 = .ok (.aload_n 0, 1) := by decide +kernel
theorem dX8_letterRefusal_1 : decode cX8_letterRefusal 1 = .ok (.getfield 44, 3) := by decide +kernel
theorem dX8_letterRefusal_4 : decode cX8_letterRefusal 4 = .ok (.iload_n 1, 1) := by decide +kernel
theorem dX8_letterRefusal_5 : decode cX8_letterRefusal 5 = .ok (.invokevirtual 350, 3) := by decide +kernel
theorem dX8_letterRefusal_8 : decode cX8_letterRefusal 8 = .ok (.ifCond .eq 7, 3) := by decide +kernel
theorem dX8_letterRefusal_11 : decode cX8_letterRefusal 11 = .ok (.iconst 0, 1) := by decide +kernel
theorem dX8_letterRefusal_12 : decode cX8_letterRefusal 12 = .ok (.goto 4, 3) := by decide +kernel
theorem dX8_letterRefusal_15 : decode cX8_letterRefusal 15 = .ok (.iconst (-1), 1) := by decide +kernel
theorem dX8_letterRefusal_16 : decode cX8_letterRefusal 16 = .ok (.ireturn, 1) := by decide +kernel
theorem dX8_twoRefusal_0 : decode cX8_twoRefusal 0 = .ok (.aload_n 0, 1) := by decide +kernel
theorem dX8_twoRefusal_1 : decode cX8_twoRefusal 1 = .ok (.getfield 44, 3) := by decide +kernel
theorem dX8_twoRefusal_4 : decode cX8_twoRefusal 4 = .ok (.iload_n 1, 1) := by decide +kernel
theorem dX8_twoRefusal_5 : decode cX8_twoRefusal 5 = .ok (.iload_n 2, 1) := by decide +kernel
theorem dX8_twoRefusal_6 : decode cX8_twoRefusal 6 = .ok (.invokevirtual 353, 3) := by decide +kernel
theorem dX8_twoRefusal_9 : decode cX8_twoRefusal 9 = .ok (.ifCond .eq 7, 3) := by decide +kernel
theorem dX8_twoRefusal_12 : decode cX8_twoRefusal 12 = .ok (.iconst 0, 1) := by decide +kernel
theorem dX8_twoRefusal_13 : decode cX8_twoRefusal 13 = .ok (.goto 4, 3) := by decide +kernel
theorem dX8_twoRefusal_16 : decode cX8_twoRefusal 16 = .ok (.iconst (-1), 1) := by decide +kernel
theorem dX8_twoRefusal_17 : decode cX8_twoRefusal 17 = .ok (.ireturn, 1) := by decide +kernel
theorem dX8_townRefusal_0 : decode cX8_townRefusal 0 = .ok (.iload_n 0, 1) := by decide +kernel
theorem dX8_townRefusal_1 : decode cX8_townRefusal 1 = .ok (.invokestatic 357, 3) := by decide +kernel
theorem dX8_townRefusal_4 : decode cX8_townRefusal 4 = .ok (.ifCond .eq 7, 3) := by decide +kernel
theorem dX8_townRefusal_7 : decode cX8_townRefusal 7 = .ok (.iconst 0, 1) := by decide +kernel
theorem dX8_townRefusal_8 : decode cX8_townRefusal 8 = .ok (.goto 4, 3) := by decide +kernel
theorem dX8_townRefusal_11 : decode cX8_townRefusal 11 = .ok (.iconst (-1), 1) := by decide +kernel
theorem dX8_townRefusal_12 : decode cX8_townRefusal 12 = .ok (.ireturn, 1) := by decide +kernel
theorem dX8_isTown_0 : decode cX8_isTown 0 = .ok (.iload_n 0, 1) := by decide +kernel
theorem dX8_isTown_1 : decode cX8_isTown 1 = .ok (.ifCond .lt 12, 3) := by decide +kernel
theorem dX8_isTown_4 : decode cX8_isTown 4 = .ok (.iload_n 0, 1) := by decide +kernel
theorem dX8_isTown_5 : decode cX8_isTown 5 = .ok (.iconst 4, 1) := by decide +kernel
theorem dX8_isTown_6 : decode cX8_isTown 6 = .ok (.if_icmp .ge 7, 3) := by decide +kernel
theorem dX8_isTown_9 : decode cX8_isTown 9 = .ok (.iconst 1, 1) := by decide +kernel
theorem dX8_isTown_10 : decode cX8_isTown 10 = .ok (.goto 4, 3) := by decide +kernel
theorem dX8_isTown_13 : decode cX8_isTown 13 = .ok (.iconst 0, 1) := by decide +kernel
theorem dX8_isTown_14 : decode cX8_isTown 14 = .ok (.ireturn, 1) := by decide +kernel
theorem dX8_range_0 : decode cX8_range 0 = .ok (.iload_n 0, 1) := by decide +kernel
theorem dX8_range_1 : decode cX8_range 1 = .ok (.iload_n 1, 1) := by decide +kernel
theorem dX8_range_2 : decode cX8_range 2 = .ok (.if_icmp .ge 8, 3) := by decide +kernel
theorem dX8_range_5 : decode cX8_range 5 = .ok (.bipush (-4), 2) := by decide +kernel
theorem dX8_range_7 : decode cX8_range 7 = .ok (.goto 14, 3) := by decide +kernel
theorem dX8_range_10 : decode cX8_range 10 = .ok (.iload_n 0, 1) := by decide +kernel
theorem dX8_range_11 : decode cX8_range 11 = .ok (.iload_n 2, 1) := by decide +kernel
theorem dX8_range_12 : decode cX8_range 12 = .ok (.if_icmp .le 8, 3) := by decide +kernel
theorem dX8_range_15 : decode cX8_range 15 = .ok (.bipush (-6), 2) := by decide +kernel
theorem dX8_range_17 : decode cX8_range 17 = .ok (.goto 4, 3) := by decide +kernel
theorem dX8_range_20 : decode cX8_range 20 = .ok (.iconst 0, 1) := by decide +kernel
theorem dX8_range_21 : decode cX8_range 21 = .ok (.ireturn, 1) := by decide +kernel
theorem dX8_choice_0 : decode cX8_choice 0 = .ok (.iload_n 0, 1) := by decide +kernel
theorem dX8_choice_1 : decode cX8_choice 1 = .ok (.ifCond .lt 12, 3) := by decide +kernel
theorem dX8_choice_4 : decode cX8_choice 4 = .ok (.iload_n 0, 1) := by decide +kernel
theorem dX8_choice_5 : decode cX8_choice 5 = .ok (.iload_n 1, 1) := by decide +kernel
theorem dX8_choice_6 : decode cX8_choice 6 = .ok (.if_icmp .gt 7, 3) := by decide +kernel
theorem dX8_choice_9 : decode cX8_choice 9 = .ok (.iconst 0, 1) := by decide +kernel
theorem dX8_choice_10 : decode cX8_choice 10 = .ok (.goto 5, 3) := by decide +kernel
theorem dX8_choice_13 : decode cX8_choice 13 = .ok (.bipush (-2), 2) := by decide +kernel
theorem dX8_choice_15 : decode cX8_choice 15 = .ok (.ireturn, 1) := by decide +kernel
theorem dX8_firstOf_0 : decode cX8_firstOf 0 = .ok (.iload_n 0, 1) := by decide +kernel
theorem dX8_firstOf_1 : decode cX8_firstOf 1 = .ok (.ifCond .eq 7, 3) := by decide +kernel
theorem dX8_firstOf_4 : decode cX8_firstOf 4 = .ok (.iload_n 0, 1) := by decide +kernel
theorem dX8_firstOf_5 : decode cX8_firstOf 5 = .ok (.goto 12, 3) := by decide +kernel
theorem dX8_firstOf_8 : decode cX8_firstOf 8 = .ok (.iload_n 1, 1) := by decide +kernel
theorem dX8_firstOf_9 : decode cX8_firstOf 9 = .ok (.ifCond .eq 7, 3) := by decide +kernel
theorem dX8_firstOf_12 : decode cX8_firstOf 12 = .ok (.iload_n 1, 1) := by decide +kernel
theorem dX8_firstOf_13 : decode cX8_firstOf 13 = .ok (.goto 4, 3) := by decide +kernel
theorem dX8_firstOf_16 : decode cX8_firstOf 16 = .ok (.iload_n 2, 1) := by decide +kernel
theorem dX8_firstOf_17 : decode cX8_firstOf 17 = .ok (.ireturn, 1) := by decide +kernel
theorem dX8_at_0 : decode cX8_at 0 = .ok (.aload_n 0, 1) := by decide +kernel
theorem dX8_at_1 : decode cX8_at 1 = .ok (.ifnull 19, 3) := by decide +kernel
theorem dX8_at_4 : decode cX8_at 4 = .ok (.iload_n 1, 1) := by decide +kernel
theorem dX8_at_5 : decode cX8_at 5 = .ok (.ifCond .lt 15, 3) := by decide +kernel
theorem dX8_at_8 : decode cX8_at 8 = .ok (.iload_n 1, 1) := by decide +kernel
theorem dX8_at_9 : decode cX8_at 9 = .ok (.aload_n 0, 1) := by decide +kernel
theorem dX8_at_10 : decode cX8_at 10 = .ok (.arraylength, 1) := by decide +kernel
theorem dX8_at_11 : decode cX8_at 11 = .ok (.if_icmp .ge 9, 3) := by decide +kernel
theorem dX8_at_14 : decode cX8_at 14 = .ok (.aload_n 0, 1) := by decide +kernel
theorem dX8_at_15 : decode cX8_at 15 = .ok (.iload_n 1, 1) := by decide +kernel
theorem dX8_at_16 : decode cX8_at 16 = .ok (.iaload, 1) := by decide +kernel
theorem dX8_at_17 : decode cX8_at 17 = .ok (.goto 4, 3) := by decide +kernel
theorem dX8_at_20 : decode cX8_at 20 = .ok (.iconst 0, 1) := by decide +kernel
theorem dX8_at_21 : decode cX8_at 21 = .ok (.ireturn, 1) := by decide +kernel
theorem dX8_put_0 : decode cX8_put 0 = .ok (.aload_n 0, 1) := by decide +kernel
theorem dX8_put_1 : decode cX8_put 1 = .ok (.ifnull 17, 3) := by decide +kernel
theorem dX8_put_4 : decode cX8_put 4 = .ok (.iload_n 1, 1) := by decide +kernel
theorem dX8_put_5 : decode cX8_put 5 = .ok (.ifCond .lt 13, 3) := by decide +kernel
theorem dX8_put_8 : decode cX8_put 8 = .ok (.iload_n 1, 1) := by decide +kernel
theorem dX8_put_9 : decode cX8_put 9 = .ok (.aload_n 0, 1) := by decide +kernel
theorem dX8_put_10 : decode cX8_put 10 = .ok (.arraylength, 1) := by decide +kernel
theorem dX8_put_11 : decode cX8_put 11 = .ok (.if_icmp .ge 7, 3) := by decide +kernel
theorem dX8_put_14 : decode cX8_put 14 = .ok (.aload_n 0, 1) := by decide +kernel
theorem dX8_put_15 : decode cX8_put 15 = .ok (.iload_n 1, 1) := by decide +kernel
theorem dX8_put_16 : decode cX8_put 16 = .ok (.iload_n 2, 1) := by decide +kernel
theorem dX8_put_17 : decode cX8_put 17 = .ok (.iastore, 1) := by decide +kernel
theorem dX8_put_18 : decode cX8_put 18 = .ok (.return_, 1) := by decide +kernel
theorem dX8_copy_0 : decode cX8_copy 0 = .ok (.aload_n 0, 1) := by decide +kernel
theorem dX8_copy_1 : decode cX8_copy 1 = .ok (.ifnull 21, 3) := by decide +kernel
theorem dX8_copy_4 : decode cX8_copy 4 = .ok (.aload_n 1, 1) := by decide +kernel
theorem dX8_copy_5 : decode cX8_copy 5 = .ok (.ifnull 17, 3) := by decide +kernel
theorem dX8_copy_8 : decode cX8_copy 8 = .ok (.aload_n 0, 1) := by decide +kernel
theorem dX8_copy_9 : decode cX8_copy 9 = .ok (.iconst 0, 1) := by decide +kernel
theorem dX8_copy_10 : decode cX8_copy 10 = .ok (.aload_n 1, 1) := by decide +kernel
theorem dX8_copy_11 : decode cX8_copy 11 = .ok (.iconst 0, 1) := by decide +kernel
theorem dX8_copy_12 : decode cX8_copy 12 = .ok (.aload_n 0, 1) := by decide +kernel
theorem dX8_copy_13 : decode cX8_copy 13 = .ok (.arraylength, 1) := by decide +kernel
theorem dX8_copy_14 : decode cX8_copy 14 = .ok (.aload_n 1, 1) := by decide +kernel
theorem dX8_copy_15 : decode cX8_copy 15 = .ok (.arraylength, 1) := by decide +kernel
theorem dX8_copy_16 : decode cX8_copy 16 = .ok (.invokestatic 360, 3) := by decide +kernel
theorem dX8_copy_19 : decode cX8_copy 19 = .ok (.invokestatic 363, 3) := by decide +kernel
theorem dX8_copy_22 : decode cX8_copy 22 = .ok (.return_, 1) := by decide +kernel
theorem dX8_bit_0 : decode cX8_bit 0 = .ok (.iload_n 1, 1) := by decide +kernel
theorem dX8_bit_1 : decode cX8_bit 1 = .ok (.ifCond .lt 17, 3) := by decide +kernel
theorem dX8_bit_4 : decode cX8_bit 4 = .ok (.iload_n 1, 1) := by decide +kernel
theorem dX8_bit_5 : decode cX8_bit 5 = .ok (.bipush 31, 2) := by decide +kernel
theorem dX8_bit_7 : decode cX8_bit 7 = .ok (.if_icmp .ge 11, 3) := by decide +kernel
theorem dX8_bit_10 : decode cX8_bit 10 = .ok (.iload_n 0, 1) := by decide +kernel
theorem dX8_bit_11 : decode cX8_bit 11 = .ok (.iload_n 1, 1) := by decide +kernel
theorem dX8_bit_12 : decode cX8_bit 12 = .ok (.ishr, 1) := by decide +kernel
theorem dX8_bit_13 : decode cX8_bit 13 = .ok (.iconst 1, 1) := by decide +kernel
theorem dX8_bit_14 : decode cX8_bit 14 = .ok (.iand, 1) := by decide +kernel
theorem dX8_bit_15 : decode cX8_bit 15 = .ok (.goto 4, 3) := by decide +kernel
theorem dX8_bit_18 : decode cX8_bit 18 = .ok (.iconst 0, 1) := by decide +kernel
theorem dX8_bit_19 : decode cX8_bit 19 = .ok (.ireturn, 1) := by decide +kernel
theorem dX8_twoName_0 : decode cX8_twoName 0 = .ok (.bipush 10, 2) := by decide +kernel
theorem dX8_twoName_2 : decode cX8_twoName 2 = .ok (.iload_n 0, 1) := by decide +kernel
theorem dX8_twoName_3 : decode cX8_twoName 3 = .ok (.iload_n 1, 1) := by decide +kernel
theorem dX8_twoName_4 : decode cX8_twoName 4 = .ok (.invokestatic 360, 3) := by decide +kernel
theorem dX8_twoName_7 : decode cX8_twoName 7 = .ok (.imul, 1) := by decide +kernel
theorem dX8_twoName_8 : decode cX8_twoName 8 = .ok (.iload_n 0, 1) := by decide +kernel
theorem dX8_twoName_9 : decode cX8_twoName 9 = .ok (.iload_n 1, 1) := by decide +kernel
theorem dX8_twoName_10 : decode cX8_twoName 10 = .ok (.invokestatic 338, 3) := by decide +kernel
theorem dX8_twoName_13 : decode cX8_twoName 13 = .ok (.iadd, 1) := by decide +kernel
theorem dX8_twoName_14 : decode cX8_twoName 14 = .ok (.ireturn, 1) := by decide +kernel
theorem dX9_init_0 : decode cX9_init 0 = .ok (.aload_n 0, 1) := by decide +kernel
theorem dX9_init_1 : decode cX9_init 1 = .ok (.invokespecial 1, 3) := by decide +kernel
theorem dX9_init_4 : decode cX9_init 4 = .ok (.aload_n 0, 1) := by decide +kernel
theorem dX9_init_5 : decode cX9_init 5 = .ok (.bipush 7, 2) := by decide +kernel
theorem dX9_init_7 : decode cX9_init 7 = .ok (.newarray .int, 2) := by decide +kernel
theorem dX9_init_9 : decode cX9_init 9 = .ok (.putfield 7, 3) := by decide +kernel
theorem dX9_init_12 : decode cX9_init 12 = .ok (.aload_n 0, 1) := by decide +kernel
theorem dX9_init_13 : decode cX9_init 13 = .ok (.bipush 6, 2) := by decide +kernel
theorem dX9_init_15 : decode cX9_init 15 = .ok (.newarray .int, 2) := by decide +kernel
theorem dX9_init_17 : decode cX9_init 17 = .ok (.putfield 13, 3) := by decide +kernel
theorem dX9_init_20 : decode cX9_init 20 = .ok (.aload_n 0, 1) := by decide +kernel
theorem dX9_init_21 : decode cX9_init 21 = .ok (.bipush 6, 2) := by decide +kernel
theorem dX9_init_23 : decode cX9_init 23 = .ok (.newarray .int, 2) := by decide +kernel
theorem dX9_init_25 : decode cX9_init 25 = .ok (.putfield 16, 3) := by decide +kernel
theorem dX9_init_28 : decode cX9_init 28 = .ok (.aload_n 0, 1) := by decide +kernel
theorem dX9_init_29 : decode cX9_init 29 = .ok (.bipush 6, 2) := by decide +kernel
theorem dX9_init_31 : decode cX9_init 31 = .ok (.newarray .int, 2) := by decide +kernel
theorem dX9_init_33 : decode cX9_init 33 = .ok (.putfield 19, 3) := by decide +kernel
theorem dX9_init_36 : decode cX9_init 36 = .ok (.aload_n 0, 1) := by decide +kernel
theorem dX9_init_37 : decode cX9_init 37 = .ok (.bipush 36, 2) := by decide +kernel
theorem dX9_init_39 : decode cX9_init 39 = .ok (.newarray .int, 2) := by decide +kernel
theorem dX9_init_41 : decode cX9_init 41 = .ok (.putfield 22, 3) := by decide +kernel
theorem dX9_init_44 : decode cX9_init 44 = .ok (.aload_n 0, 1) := by decide +kernel
theorem dX9_init_45 : decode cX9_init 45 = .ok (.bipush 6, 2) := by decide +kernel
