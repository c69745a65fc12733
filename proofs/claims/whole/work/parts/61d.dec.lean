theorem dX9_send_14 : decode cX9_send 14 = .ok (.ireturn, 1) := by decide +kernel
theorem dX9_send_15 : decode cX9_send 15 = .ok (.bipush (-9), 2) := by decide +kernel
theorem dX9_send_17 : decode cX9_send 17 = .ok (.istore_n 3, 1) := by decide +kernel
theorem dX9_send_18 : decode cX9_send 18 = .ok (.aload_n 0, 1) := by decide +kernel
theorem dX9_send_19 : decode cX9_send 19 = .ok (.iload_n 1, 1) := by decide +kernel
theorem dX9_send_20 : decode cX9_send 20 = .ok (.invokevirtual 229, 3) := by decide +kernel
theorem dX9_send_23 : decode cX9_send 23 = .ok (.invokestatic 214, 3) := by decide +kernel
theorem dX9_send_26 : decode cX9_send 26 = .ok (.istore 4, 2) := by decide +kernel
theorem dX9_send_28 : decode cX9_send 28 = .ok (.iconst 0, 1) := by decide +kernel
theorem dX9_send_29 : decode cX9_send 29 = .ok (.istore 5, 2) := by decide +kernel
theorem dX9_send_31 : decode cX9_send 31 = .ok (.iload 5, 2) := by decide +kernel
theorem dX9_send_33 : decode cX9_send 33 = .ok (.aload_n 0, 1) := by decide +kernel
theorem dX9_send_34 : decode cX9_send 34 = .ok (.getfield 65, 3) := by decide +kernel
theorem dX9_send_37 : decode cX9_send 37 = .ok (.if_icmp .ge 75, 3) := by decide +kernel
theorem dX9_send_40 : decode cX9_send 40 = .ok (.iconst 0, 1) := by decide +kernel
theorem dX9_send_41 : decode cX9_send 41 = .ok (.istore 6, 2) := by decide +kernel
theorem dX9_send_43 : decode cX9_send 43 = .ok (.iload 6, 2) := by decide +kernel
theorem dX9_send_45 : decode cX9_send 45 = .ok (.iconst 4, 1) := by decide +kernel
theorem dX9_send_46 : decode cX9_send 46 = .ok (.if_icmp .ge 60, 3) := by decide +kernel
theorem dX9_send_49 : decode cX9_send 49 = .ok (.iload 6, 2) := by decide +kernel
theorem dX9_send_51 : decode cX9_send 51 = .ok (.aload_n 0, 1) := by decide +kernel
theorem dX9_send_52 : decode cX9_send 52 = .ok (.getfield 19, 3) := by decide +kernel
theorem dX9_send_55 : decode cX9_send 55 = .ok (.iload 5, 2) := by decide +kernel
theorem dX9_send_57 : decode cX9_send 57 = .ok (.iaload, 1) := by decide +kernel
theorem dX9_send_58 : decode cX9_send 58 = .ok (.if_icmp .ne 8, 3) := by decide +kernel
theorem dX9_send_61 : decode cX9_send 61 = .ok (.bipush (-9), 2) := by decide +kernel
theorem dX9_send_63 : decode cX9_send 63 = .ok (.goto 12, 3) := by decide +kernel
theorem dX9_send_66 : decode cX9_send 66 = .ok (.aload_n 0, 1) := by decide +kernel
theorem dX9_send_67 : decode cX9_send 67 = .ok (.iload 5, 2) := by decide +kernel
theorem dX9_send_69 : decode cX9_send 69 = .ok (.iload 6, 2) := by decide +kernel
theorem dX9_send_71 : decode cX9_send 71 = .ok (.iload_n 1, 1) := by decide +kernel
theorem dX9_send_72 : decode cX9_send 72 = .ok (.invokevirtual 247, 3) := by decide +kernel
theorem dX9_send_75 : decode cX9_send 75 = .ok (.istore 7, 2) := by decide +kernel
theorem dX9_send_77 : decode cX9_send 77 = .ok (.iload 7, 2) := by decide +kernel
theorem dX9_send_79 : decode cX9_send 79 = .ok (.iload 4, 2) := by decide +kernel
theorem dX9_send_81 : decode cX9_send 81 = .ok (.if_icmp .gt 6, 3) := by decide +kernel
theorem dX9_send_84 : decode cX9_send 84 = .ok (.goto 16, 3) := by decide +kernel
theorem dX9_send_87 : decode cX9_send 87 = .ok (.bipush 10, 2) := by decide +kernel
theorem dX9_send_89 : decode cX9_send 89 = .ok (.iload 5, 2) := by decide +kernel
theorem dX9_send_91 : decode cX9_send 91 = .ok (.imul, 1) := by decide +kernel
theorem dX9_send_92 : decode cX9_send 92 = .ok (.iload 6, 2) := by decide +kernel
theorem dX9_send_94 : decode cX9_send 94 = .ok (.iadd, 1) := by decide +kernel
theorem dX9_send_95 : decode cX9_send 95 = .ok (.istore_n 3, 1) := by decide +kernel
theorem dX9_send_96 : decode cX9_send 96 = .ok (.iload 7, 2) := by decide +kernel
theorem dX9_send_98 : decode cX9_send 98 = .ok (.istore 4, 2) := by decide +kernel
theorem dX9_send_100 : decode cX9_send 100 = .ok (.iinc 6 1, 3) := by decide +kernel
theorem dX9_send_103 : decode cX9_send 103 = .ok (.goto (-60), 3) := by decide +kernel
theorem dX9_send_106 : decode cX9_send 106 = .ok (.iinc 5 1, 3) := by decide +kernel
theorem dX9_send_109 : decode cX9_send 109 = .ok (.goto (-78), 3) := by decide +kernel
theorem dX9_send_112 : decode cX9_send 112 = .ok (.iload_n 3, 1) := by decide +kernel
theorem dX9_send_113 : decode cX9_send 113 = .ok (.ireturn, 1) := by decide +kernel
theorem dX9_places_0 : decode cX9_places 0 = .ok (.aload_n 0, 1) := by decide +kernel
theorem dX9_places_1 : decode cX9_places 1 = .ok (.iload_n 1, 1) := by decide +kernel
theorem dX9_places_2 : decode cX9_places 2 = .ok (.iload_n 2, 1) := by decide +kernel
theorem dX9_places_3 : decode cX9_places 3 = .ok (.invokevirtual 125, 3) := by decide +kernel
theorem dX9_places_6 : decode cX9_places 6 = .ok (.ifCond .eq 21, 3) := by decide +kernel
theorem dX9_places_9 : decode cX9_places 9 = .ok (.aload_n 0, 1) := by decide +kernel
theorem dX9_places_10 : decode cX9_places 10 = .ok (.iload_n 1, 1) := by decide +kernel
theorem dX9_places_11 : decode cX9_places 11 = .ok (.iload_n 3, 1) := by decide +kernel
theorem dX9_places_12 : decode cX9_places 12 = .ok (.invokevirtual 125, 3) := by decide +kernel
theorem dX9_places_15 : decode cX9_places 15 = .ok (.ifCond .eq 12, 3) := by decide +kernel
theorem dX9_places_18 : decode cX9_places 18 = .ok (.aload_n 0, 1) := by decide +kernel
theorem dX9_places_19 : decode cX9_places 19 = .ok (.iload_n 2, 1) := by decide +kernel
theorem dX9_places_20 : decode cX9_places 20 = .ok (.iload_n 3, 1) := by decide +kernel
theorem dX9_places_21 : decode cX9_places 21 = .ok (.invokevirtual 125, 3) := by decide +kernel
theorem dX9_places_24 : decode cX9_places 24 = .ok (.ifCond .ne 7, 3) := by decide +kernel
theorem dX9_places_27 : decode cX9_places 27 = .ok (.iconst (-1), 1) := by decide +kernel
theorem dX9_places_28 : decode cX9_places 28 = .ok (.goto 8, 3) := by decide +kernel
theorem dX9_places_31 : decode cX9_places 31 = .ok (.iload 4, 2) := by decide +kernel
theorem dX9_places_33 : decode cX9_places 33 = .ok (.invokestatic 223, 3) := by decide +kernel
theorem dX9_places_36 : decode cX9_places 36 = .ok (.istore 6, 2) := by decide +kernel
theorem dX9_places_38 : decode cX9_places 38 = .ok (.iload 6, 2) := by decide +kernel
theorem dX9_places_40 : decode cX9_places 40 = .ok (.ifCond .ne 17, 3) := by decide +kernel
theorem dX9_places_43 : decode cX9_places 43 = .ok (.iload 5, 2) := by decide +kernel
theorem dX9_places_45 : decode cX9_places 45 = .ok (.iconst 0, 1) := by decide +kernel
theorem dX9_places_46 : decode cX9_places 46 = .ok (.iconst 1, 1) := by decide +kernel
theorem dX9_places_47 : decode cX9_places 47 = .ok (.invokestatic 90, 3) := by decide +kernel
theorem dX9_places_50 : decode cX9_places 50 = .ok (.ifCond .ne 7, 3) := by decide +kernel
theorem dX9_places_53 : decode cX9_places 53 = .ok (.bipush (-2), 2) := by decide +kernel
theorem dX9_places_55 : decode cX9_places 55 = .ok (.istore 6, 2) := by decide +kernel
theorem dX9_places_57 : decode cX9_places 57 = .ok (.iload 6, 2) := by decide +kernel
theorem dX9_places_59 : decode cX9_places 59 = .ok (.ifCond .eq 10, 3) := by decide +kernel
theorem dX9_places_62 : decode cX9_places 62 = .ok (.aload_n 0, 1) := by decide +kernel
theorem dX9_places_63 : decode cX9_places 63 = .ok (.iload 6, 2) := by decide +kernel
theorem dX9_places_65 : decode cX9_places 65 = .ok (.invokevirtual 79, 3) := by decide +kernel
theorem dX9_places_68 : decode cX9_places 68 = .ok (.ireturn, 1) := by decide +kernel
theorem dX9_places_69 : decode cX9_places 69 = .ok (.bipush (-9), 2) := by decide +kernel
theorem dX9_places_71 : decode cX9_places 71 = .ok (.istore 7, 2) := by decide +kernel
theorem dX9_places_73 : decode cX9_places 73 = .ok (.bipush (-9), 2) := by decide +kernel
theorem dX9_places_75 : decode cX9_places 75 = .ok (.istore 8, 2) := by decide +kernel
theorem dX9_places_77 : decode cX9_places 77 = .ok (.aload_n 0, 1) := by decide +kernel
theorem dX9_places_78 : decode cX9_places 78 = .ok (.invokevirtual 250, 3) := by decide +kernel
theorem dX9_places_81 : decode cX9_places 81 = .ok (.iconst 0, 1) := by decide +kernel
theorem dX9_places_82 : decode cX9_places 82 = .ok (.istore 9, 2) := by decide +kernel
theorem dX9_places_84 : decode cX9_places 84 = .ok (.iload 9, 2) := by decide +kernel
theorem dX9_places_86 : decode cX9_places 86 = .ok (.bipush 64, 2) := by decide +kernel
theorem dX9_places_88 : decode cX9_places 88 = .ok (.if_icmp .ge 92, 3) := by decide +kernel
theorem dX9_places_91 : decode cX9_places 91 = .ok (.aload_n 0, 1) := by decide +kernel
theorem dX9_places_92 : decode cX9_places 92 = .ok (.getfield 19, 3) := by decide +kernel
theorem dX9_places_95 : decode cX9_places 95 = .ok (.iload_n 1, 1) := by decide +kernel
theorem dX9_places_96 : decode cX9_places 96 = .ok (.iload 9, 2) := by decide +kernel
theorem dX9_places_98 : decode cX9_places 98 = .ok (.bipush 16, 2) := by decide +kernel
theorem dX9_places_100 : decode cX9_places 100 = .ok (.idiv, 1) := by decide +kernel
theorem dX9_places_101 : decode cX9_places 101 = .ok (.iastore, 1) := by decide +kernel
theorem dX9_places_102 : decode cX9_places 102 = .ok (.aload_n 0, 1) := by decide +kernel
theorem dX9_places_103 : decode cX9_places 103 = .ok (.getfield 19, 3) := by decide +kernel
theorem dX9_places_106 : decode cX9_places 106 = .ok (.iload_n 2, 1) := by decide +kernel
theorem dX9_places_107 : decode cX9_places 107 = .ok (.iload 9, 2) := by decide +kernel
theorem dX9_places_109 : decode cX9_places 109 = .ok (.iconst 4, 1) := by decide +kernel
theorem dX9_places_110 : decode cX9_places 110 = .ok (.idiv, 1) := by decide +kernel
theorem dX9_places_111 : decode cX9_places 111 = .ok (.iconst 4, 1) := by decide +kernel
theorem dX9_places_112 : decode cX9_places 112 = .ok (.irem, 1) := by decide +kernel
theorem dX9_places_113 : decode cX9_places 113 = .ok (.iastore, 1) := by decide +kernel
theorem dX9_places_114 : decode cX9_places 114 = .ok (.aload_n 0, 1) := by decide +kernel
theorem dX9_places_115 : decode cX9_places 115 = .ok (.getfield 19, 3) := by decide +kernel
theorem dX9_places_118 : decode cX9_places 118 = .ok (.iload_n 3, 1) := by decide +kernel
theorem dX9_places_119 : decode cX9_places 119 = .ok (.iload 9, 2) := by decide +kernel
theorem dX9_places_121 : decode cX9_places 121 = .ok (.iconst 4, 1) := by decide +kernel
theorem dX9_places_122 : decode cX9_places 122 = .ok (.irem, 1) := by decide +kernel
theorem dX9_places_123 : decode cX9_places 123 = .ok (.iastore, 1) := by decide +kernel
theorem dX9_places_124 : decode cX9_places 124 = .ok (.aload_n 0, 1) := by decide +kernel
theorem dX9_places_125 : decode cX9_places 125 = .ok (.iload 4, 2) := by decide +kernel
theorem dX9_places_127 : decode cX9_places 127 = .ok (.invokevirtual 229, 3) := by decide +kernel
theorem dX9_places_130 : decode cX9_places 130 = .ok (.invokestatic 214, 3) := by decide +kernel
theorem dX9_places_133 : decode cX9_places 133 = .ok (.istore 10, 2) := by decide +kernel
theorem dX9_places_135 : decode cX9_places 135 = .ok (.iload 10, 2) := by decide +kernel
theorem dX9_places_137 : decode cX9_places 137 = .ok (.iload 8, 2) := by decide +kernel
theorem dX9_places_139 : decode cX9_places 139 = .ok (.if_icmp .gt 6, 3) := by decide +kernel
theorem dX9_places_142 : decode cX9_places 142 = .ok (.goto 32, 3) := by decide +kernel
theorem dX9_places_145 : decode cX9_places 145 = .ok (.bipush 100, 2) := by decide +kernel
theorem dX9_places_147 : decode cX9_places 147 = .ok (.iload 9, 2) := by decide +kernel
theorem dX9_places_149 : decode cX9_places 149 = .ok (.bipush 16, 2) := by decide +kernel
theorem dX9_places_151 : decode cX9_places 151 = .ok (.idiv, 1) := by decide +kernel
theorem dX9_places_152 : decode cX9_places 152 = .ok (.imul, 1) := by decide +kernel
theorem dX9_places_153 : decode cX9_places 153 = .ok (.bipush 10, 2) := by decide +kernel
theorem dX9_places_155 : decode cX9_places 155 = .ok (.iload 9, 2) := by decide +kernel
theorem dX9_places_157 : decode cX9_places 157 = .ok (.iconst 4, 1) := by decide +kernel
theorem dX9_places_158 : decode cX9_places 158 = .ok (.idiv, 1) := by decide +kernel
theorem dX9_places_159 : decode cX9_places 159 = .ok (.iconst 4, 1) := by decide +kernel
theorem dX9_places_160 : decode cX9_places 160 = .ok (.irem, 1) := by decide +kernel
theorem dX9_places_161 : decode cX9_places 161 = .ok (.imul, 1) := by decide +kernel
theorem dX9_places_162 : decode cX9_places 162 = .ok (.iadd, 1) := by decide +kernel
theorem dX9_places_163 : decode cX9_places 163 = .ok (.iload 9, 2) := by decide +kernel
theorem dX9_places_165 : decode cX9_places 165 = .ok (.iconst 4, 1) := by decide +kernel
theorem dX9_places_166 : decode cX9_places 166 = .ok (.irem, 1) := by decide +kernel
theorem dX9_places_167 : decode cX9_places 167 = .ok (.iadd, 1) := by decide +kernel
theorem dX9_places_168 : decode cX9_places 168 = .ok (.istore 7, 2) := by decide +kernel
theorem dX9_places_170 : decode cX9_places 170 = .ok (.iload 10, 2) := by decide +kernel
theorem dX9_places_172 : decode cX9_places 172 = .ok (.istore 8, 2) := by decide +kernel
theorem dX9_places_174 : decode cX9_places 174 = .ok (.iinc 9 1, 3) := by decide +kernel
theorem dX9_places_177 : decode cX9_places 177 = .ok (.goto (-93), 3) := by decide +kernel
theorem dX9_places_180 : decode cX9_places 180 = .ok (.aload_n 0, 1) := by decide +kernel
theorem dX9_places_181 : decode cX9_places 181 = .ok (.invokevirtual 253, 3) := by decide +kernel
theorem dX9_places_184 : decode cX9_places 184 = .ok (.iload 5, 2) := by decide +kernel
theorem dX9_places_186 : decode cX9_places 186 = .ok (.ifCond .ne 8, 3) := by decide +kernel
theorem dX9_places_189 : decode cX9_places 189 = .ok (.iload 7, 2) := by decide +kernel
theorem dX9_places_191 : decode cX9_places 191 = .ok (.goto 5, 3) := by decide +kernel
theorem dX9_places_194 : decode cX9_places 194 = .ok (.iload 8, 2) := by decide +kernel
theorem dX9_places_196 : decode cX9_places 196 = .ok (.ireturn, 1) := by decide +kernel
theorem dX9_manyBy_0 : decode cX9_manyBy 0 = .ok (.aload_n 0, 1) := by decide +kernel
theorem dX9_manyBy_1 : decode cX9_manyBy 1 = .ok (.iload_n 1, 1) := by decide +kernel
theorem dX9_manyBy_2 : decode cX9_manyBy 2 = .ok (.iconst (-1), 1) := by decide +kernel
theorem dX9_manyBy_3 : decode cX9_manyBy 3 = .ok (.ixor, 1) := by decide +kernel
theorem dX9_manyBy_4 : decode cX9_manyBy 4 = .ok (.putfield 171, 3) := by decide +kernel
theorem dX9_manyBy_7 : decode cX9_manyBy 7 = .ok (.aload_n 0, 1) := by decide +kernel
theorem dX9_manyBy_8 : decode cX9_manyBy 8 = .ok (.iload_n 2, 1) := by decide +kernel
theorem dX9_manyBy_9 : decode cX9_manyBy 9 = .ok (.invokevirtual 229, 3) := by decide +kernel
theorem dX9_manyBy_12 : decode cX9_manyBy 12 = .ok (.invokestatic 214, 3) := by decide +kernel
theorem dX9_manyBy_15 : decode cX9_manyBy 15 = .ok (.istore_n 3, 1) := by decide +kernel
theorem dX9_manyBy_16 : decode cX9_manyBy 16 = .ok (.aload_n 0, 1) := by decide +kernel
theorem dX9_manyBy_17 : decode cX9_manyBy 17 = .ok (.iconst 0, 1) := by decide +kernel
theorem dX9_manyBy_18 : decode cX9_manyBy 18 = .ok (.putfield 171, 3) := by decide +kernel
theorem dX9_manyBy_21 : decode cX9_manyBy 21 = .ok (.iload_n 3, 1) := by decide +kernel
theorem dX9_manyBy_22 : decode cX9_manyBy 22 = .ok (.ireturn, 1) := by decide +kernel
theorem dX9_payOfAll_0 : decode cX9_payOfAll 0 = .ok (.iconst 0, 1) := by decide +kernel
theorem dX9_payOfAll_1 : decode cX9_payOfAll 1 = .ok (.istore_n 2, 1) := by decide +kernel
theorem dX9_payOfAll_2 : decode cX9_payOfAll 2 = .ok (.iconst 0, 1) := by decide +kernel
theorem dX9_payOfAll_3 : decode cX9_payOfAll 3 = .ok (.istore_n 3, 1) := by decide +kernel
theorem dX9_payOfAll_4 : decode cX9_payOfAll 4 = .ok (.iload_n 3, 1) := by decide +kernel
theorem dX9_payOfAll_5 : decode cX9_payOfAll 5 = .ok (.aload_n 0, 1) := by decide +kernel
theorem dX9_payOfAll_6 : decode cX9_payOfAll 6 = .ok (.getfield 65, 3) := by decide +kernel
theorem dX9_payOfAll_9 : decode cX9_payOfAll 9 = .ok (.if_icmp .ge 29, 3) := by decide +kernel
theorem dX9_payOfAll_12 : decode cX9_payOfAll 12 = .ok (.iload_n 2, 1) := by decide +kernel
theorem dX9_payOfAll_13 : decode cX9_payOfAll 13 = .ok (.iload_n 1, 1) := by decide +kernel
theorem dX9_payOfAll_14 : decode cX9_payOfAll 14 = .ok (.iload_n 3, 1) := by decide +kernel
theorem dX9_payOfAll_15 : decode cX9_payOfAll 15 = .ok (.invokestatic 174, 3) := by decide +kernel
theorem dX9_payOfAll_18 : decode cX9_payOfAll 18 = .ok (.ifCond .eq 11, 3) := by decide +kernel
theorem dX9_payOfAll_21 : decode cX9_payOfAll 21 = .ok (.aload_n 0, 1) := by decide +kernel
theorem dX9_payOfAll_22 : decode cX9_payOfAll 22 = .ok (.iload_n 3, 1) := by decide +kernel
theorem dX9_payOfAll_23 : decode cX9_payOfAll 23 = .ok (.invokevirtual 205, 3) := by decide +kernel
theorem dX9_payOfAll_26 : decode cX9_payOfAll 26 = .ok (.goto 4, 3) := by decide +kernel
theorem dX9_payOfAll_29 : decode cX9_payOfAll 29 = .ok (.iconst 0, 1) := by decide +kernel
theorem dX9_payOfAll_30 : decode cX9_payOfAll 30 = .ok (.iadd, 1) := by decide +kernel
theorem dX9_payOfAll_31 : decode cX9_payOfAll 31 = .ok (.istore_n 2, 1) := by decide +kernel
theorem dX9_payOfAll_32 : decode cX9_payOfAll 32 = .ok (.iinc 3 1, 3) := by decide +kernel
theorem dX9_payOfAll_35 : decode cX9_payOfAll 35 = .ok (.goto (-31), 3) := by decide +kernel
theorem dX9_payOfAll_38 : decode cX9_payOfAll 38 = .ok (.iload_n 2, 1) := by decide +kernel
theorem dX9_payOfAll_39 : decode cX9_payOfAll 39 = .ok (.ireturn, 1) := by decide +kernel
theorem dX9_fewest_0 : decode cX9_fewest 0 = .ok (.iload_n 1, 1) := by decide +kernel
theorem dX9_fewest_1 : decode cX9_fewest 1 = .ok (.invokestatic 223, 3) := by decide +kernel
theorem dX9_fewest_4 : decode cX9_fewest 4 = .ok (.istore_n 3, 1) := by decide +kernel
theorem dX9_fewest_5 : decode cX9_fewest 5 = .ok (.iload_n 3, 1) := by decide +kernel
theorem dX9_fewest_6 : decode cX9_fewest 6 = .ok (.ifCond .ne 15, 3) := by decide +kernel
theorem dX9_fewest_9 : decode cX9_fewest 9 = .ok (.iload_n 2, 1) := by decide +kernel
theorem dX9_fewest_10 : decode cX9_fewest 10 = .ok (.iconst 0, 1) := by decide +kernel
theorem dX9_fewest_11 : decode cX9_fewest 11 = .ok (.iconst 1, 1) := by decide +kernel
theorem dX9_fewest_12 : decode cX9_fewest 12 = .ok (.invokestatic 90, 3) := by decide +kernel
theorem dX9_fewest_15 : decode cX9_fewest 15 = .ok (.ifCond .ne 6, 3) := by decide +kernel
theorem dX9_fewest_18 : decode cX9_fewest 18 = .ok (.bipush (-2), 2) := by decide +kernel
theorem dX9_fewest_20 : decode cX9_fewest 20 = .ok (.istore_n 3, 1) := by decide +kernel
theorem dX9_fewest_21 : decode cX9_fewest 21 = .ok (.iload_n 3, 1) := by decide +kernel
theorem dX9_fewest_22 : decode cX9_fewest 22 = .ok (.ifCond .eq 9, 3) := by decide +kernel
theorem dX9_fewest_25 : decode cX9_fewest 25 = .ok (.aload_n 0, 1) := by decide +kernel
theorem dX9_fewest_26 : decode cX9_fewest 26 = .ok (.iload_n 3, 1) := by decide +kernel
theorem dX9_fewest_27 : decode cX9_fewest 27 = .ok (.invokevirtual 79, 3) := by decide +kernel
theorem dX9_fewest_30 : decode cX9_fewest 30 = .ok (.ireturn, 1) := by decide +kernel
theorem dX9_fewest_31 : decode cX9_fewest 31 = .ok (.aload_n 0, 1) := by decide +kernel
theorem dX9_fewest_32 : decode cX9_fewest 32 = .ok (.iload_n 1, 1) := by decide +kernel
theorem dX9_fewest_33 : decode cX9_fewest 33 = .ok (.invokevirtual 229, 3) := by decide +kernel
theorem dX9_fewest_36 : decode cX9_fewest 36 = .ok (.invokestatic 214, 3) := by decide +kernel
theorem dX9_fewest_39 : decode cX9_fewest 39 = .ok (.istore 4, 2) := by decide +kernel
theorem dX9_fewest_41 : decode cX9_fewest 41 = .ok (.iconst 1, 1) := by decide +kernel
theorem dX9_fewest_42 : decode cX9_fewest 42 = .ok (.aload_n 0, 1) := by decide +kernel
theorem dX9_fewest_43 : decode cX9_fewest 43 = .ok (.getfield 65, 3) := by decide +kernel
theorem dX9_fewest_46 : decode cX9_fewest 46 = .ok (.ishl, 1) := by decide +kernel
theorem dX9_fewest_47 : decode cX9_fewest 47 = .ok (.iconst 1, 1) := by decide +kernel
theorem dX9_fewest_48 : decode cX9_fewest 48 = .ok (.isub, 1) := by decide +kernel
theorem dX9_fewest_49 : decode cX9_fewest 49 = .ok (.istore 5, 2) := by decide +kernel
theorem dX9_fewest_51 : decode cX9_fewest 51 = .ok (.iload 5, 2) := by decide +kernel
theorem dX9_fewest_53 : decode cX9_fewest 53 = .ok (.istore 6, 2) := by decide +kernel
theorem dX9_fewest_55 : decode cX9_fewest 55 = .ok (.iload 6, 2) := by decide +kernel
theorem dX9_fewest_57 : decode cX9_fewest 57 = .ok (.ifCond .lt 38, 3) := by decide +kernel
theorem dX9_fewest_60 : decode cX9_fewest 60 = .ok (.iload 6, 2) := by decide +kernel
theorem dX9_fewest_62 : decode cX9_fewest 62 = .ok (.invokestatic 214, 3) := by decide +kernel
theorem dX9_fewest_65 : decode cX9_fewest 65 = .ok (.iload 5, 2) := by decide +kernel
theorem dX9_fewest_67 : decode cX9_fewest 67 = .ok (.invokestatic 214, 3) := by decide +kernel
theorem dX9_fewest_70 : decode cX9_fewest 70 = .ok (.if_icmp .gt 19, 3) := by decide +kernel
theorem dX9_fewest_73 : decode cX9_fewest 73 = .ok (.aload_n 0, 1) := by decide +kernel
theorem dX9_fewest_74 : decode cX9_fewest 74 = .ok (.iload 6, 2) := by decide +kernel
theorem dX9_fewest_76 : decode cX9_fewest 76 = .ok (.iload_n 1, 1) := by decide +kernel
theorem dX9_fewest_77 : decode cX9_fewest 77 = .ok (.invokevirtual 256, 3) := by decide +kernel
theorem dX9_fewest_80 : decode cX9_fewest 80 = .ok (.iload 4, 2) := by decide +kernel
theorem dX9_fewest_82 : decode cX9_fewest 82 = .ok (.if_icmp .lt 7, 3) := by decide +kernel
theorem dX9_fewest_85 : decode cX9_fewest 85 = .ok (.iload 6, 2) := by decide +kernel
theorem dX9_fewest_87 : decode cX9_fewest 87 = .ok (.istore 5, 2) := by decide +kernel
theorem dX9_fewest_89 : decode cX9_fewest 89 = .ok (.iinc 6 (-1), 3) := by decide +kernel
theorem dX9_fewest_92 : decode cX9_fewest 92 = .ok (.goto (-37), 3) := by decide +kernel
theorem dX9_fewest_95 : decode cX9_fewest 95 = .ok (.iload_n 2, 1) := by decide +kernel
theorem dX9_fewest_96 : decode cX9_fewest 96 = .ok (.ifCond .ne 8, 3) := by decide +kernel
theorem dX9_fewest_99 : decode cX9_fewest 99 = .ok (.iload 5, 2) := by decide +kernel
theorem dX9_fewest_101 : decode cX9_fewest 101 = .ok (.goto 9, 3) := by decide +kernel
theorem dX9_fewest_104 : decode cX9_fewest 104 = .ok (.aload_n 0, 1) := by decide +kernel
theorem dX9_fewest_105 : decode cX9_fewest 105 = .ok (.iload 5, 2) := by decide +kernel
theorem dX9_fewest_107 : decode cX9_fewest 107 = .ok (.invokevirtual 259, 3) := by decide +kernel
theorem dX9_fewest_110 : decode cX9_fewest 110 = .ok (.ireturn, 1) := by decide +kernel
theorem dX9_keepersIn_0 : decode cX9_keepersIn 0 = .ok (.iconst 0, 1) := by decide +kernel
theorem dX9_keepersIn_1 : decode cX9_keepersIn 1 = .ok (.istore_n 2, 1) := by decide +kernel
theorem dX9_keepersIn_2 : decode cX9_keepersIn 2 = .ok (.iconst 0, 1) := by decide +kernel
theorem dX9_keepersIn_3 : decode cX9_keepersIn 3 = .ok (.istore_n 3, 1) := by decide +kernel
theorem dX9_keepersIn_4 : decode cX9_keepersIn 4 = .ok (.iload_n 3, 1) := by decide +kernel
theorem dX9_keepersIn_5 : decode cX9_keepersIn 5 = .ok (.aload_n 0, 1) := by decide +kernel
theorem dX9_keepersIn_6 : decode cX9_keepersIn 6 = .ok (.getfield 65, 3) := by decide +kernel
theorem dX9_keepersIn_9 : decode cX9_keepersIn 9 = .ok (.if_icmp .ge 29, 3) := by decide +kernel
theorem dX9_keepersIn_12 : decode cX9_keepersIn 12 = .ok (.iload_n 2, 1) := by decide +kernel
theorem dX9_keepersIn_13 : decode cX9_keepersIn 13 = .ok (.aload_n 0, 1) := by decide +kernel
theorem dX9_keepersIn_14 : decode cX9_keepersIn 14 = .ok (.getfield 19, 3) := by decide +kernel
theorem dX9_keepersIn_17 : decode cX9_keepersIn 17 = .ok (.iload_n 3, 1) := by decide +kernel
theorem dX9_keepersIn_18 : decode cX9_keepersIn 18 = .ok (.iaload, 1) := by decide +kernel
theorem dX9_keepersIn_19 : decode cX9_keepersIn 19 = .ok (.iload_n 1, 1) := by decide +kernel
theorem dX9_keepersIn_20 : decode cX9_keepersIn 20 = .ok (.if_icmp .ne 9, 3) := by decide +kernel
theorem dX9_keepersIn_23 : decode cX9_keepersIn 23 = .ok (.iconst 1, 1) := by decide +kernel
theorem dX9_keepersIn_24 : decode cX9_keepersIn 24 = .ok (.iload_n 3, 1) := by decide +kernel
theorem dX9_keepersIn_25 : decode cX9_keepersIn 25 = .ok (.ishl, 1) := by decide +kernel
theorem dX9_keepersIn_26 : decode cX9_keepersIn 26 = .ok (.goto 4, 3) := by decide +kernel
theorem dX9_keepersIn_29 : decode cX9_keepersIn 29 = .ok (.iconst 0, 1) := by decide +kernel
theorem dX9_keepersIn_30 : decode cX9_keepersIn 30 = .ok (.ior, 1) := by decide +kernel
theorem dX9_keepersIn_31 : decode cX9_keepersIn 31 = .ok (.istore_n 2, 1) := by decide +kernel
theorem dX9_keepersIn_32 : decode cX9_keepersIn 32 = .ok (.iinc 3 1, 3) := by decide +kernel
theorem dX9_keepersIn_35 : decode cX9_keepersIn 35 = .ok (.goto (-31), 3) := by decide +kernel
theorem dX9_keepersIn_38 : decode cX9_keepersIn 38 = .ok (.iload_n 2, 1) := by decide +kernel
theorem dX9_keepersIn_39 : decode cX9_keepersIn 39 = .ok (.ireturn, 1) := by decide +kernel
theorem dX9_pay_0 : decode cX9_pay 0 = .ok (.iload_n 1, 1) := by decide +kernel
theorem dX9_pay_1 : decode cX9_pay 1 = .ok (.iconst (-1), 1) := by decide +kernel
theorem dX9_pay_2 : decode cX9_pay 2 = .ok (.if_icmp .eq 14, 3) := by decide +kernel
theorem dX9_pay_5 : decode cX9_pay 5 = .ok (.iload_n 1, 1) := by decide +kernel
theorem dX9_pay_6 : decode cX9_pay 6 = .ok (.invokestatic 104, 3) := by decide +kernel
theorem dX9_pay_9 : decode cX9_pay 9 = .ok (.ifCond .ne 7, 3) := by decide +kernel
theorem dX9_pay_12 : decode cX9_pay 12 = .ok (.iconst (-1), 1) := by decide +kernel
theorem dX9_pay_13 : decode cX9_pay 13 = .ok (.goto 7, 3) := by decide +kernel
theorem dX9_pay_16 : decode cX9_pay 16 = .ok (.iload_n 2, 1) := by decide +kernel
theorem dX9_pay_17 : decode cX9_pay 17 = .ok (.invokestatic 223, 3) := by decide +kernel
theorem dX9_pay_20 : decode cX9_pay 20 = .ok (.istore_n 3, 1) := by decide +kernel
theorem dX9_pay_21 : decode cX9_pay 21 = .ok (.iload_n 3, 1) := by decide +kernel
theorem dX9_pay_22 : decode cX9_pay 22 = .ok (.ifCond .eq 9, 3) := by decide +kernel
theorem dX9_pay_25 : decode cX9_pay 25 = .ok (.aload_n 0, 1) := by decide +kernel
theorem dX9_pay_26 : decode cX9_pay 26 = .ok (.iload_n 3, 1) := by decide +kernel
theorem dX9_pay_27 : decode cX9_pay 27 = .ok (.invokevirtual 79, 3) := by decide +kernel
theorem dX9_pay_30 : decode cX9_pay 30 = .ok (.ireturn, 1) := by decide +kernel
theorem dX9_pay_31 : decode cX9_pay 31 = .ok (.iload_n 2, 1) := by decide +kernel
theorem dX9_pay_32 : decode cX9_pay 32 = .ok (.aload_n 0, 1) := by decide +kernel
theorem dX9_pay_33 : decode cX9_pay 33 = .ok (.iload_n 1, 1) := by decide +kernel
theorem dX9_pay_34 : decode cX9_pay 34 = .ok (.ifCond .ge 8, 3) := by decide +kernel
theorem dX9_pay_37 : decode cX9_pay 37 = .ok (.bipush 63, 2) := by decide +kernel
theorem dX9_pay_39 : decode cX9_pay 39 = .ok (.goto 8, 3) := by decide +kernel
theorem dX9_pay_42 : decode cX9_pay 42 = .ok (.aload_n 0, 1) := by decide +kernel
theorem dX9_pay_43 : decode cX9_pay 43 = .ok (.iload_n 1, 1) := by decide +kernel
theorem dX9_pay_44 : decode cX9_pay 44 = .ok (.invokevirtual 262, 3) := by decide +kernel
theorem dX9_pay_47 : decode cX9_pay 47 = .ok (.invokevirtual 259, 3) := by decide +kernel
theorem dX9_pay_50 : decode cX9_pay 50 = .ok (.imul, 1) := by decide +kernel
theorem dX9_pay_51 : decode cX9_pay 51 = .ok (.ireturn, 1) := by decide +kernel
theorem dX9_deepest_0 : decode cX9_deepest 0 = .ok (.iload_n 1, 1) := by decide +kernel
theorem dX9_deepest_1 : decode cX9_deepest 1 = .ok (.invokestatic 104, 3) := by decide +kernel
theorem dX9_deepest_4 : decode cX9_deepest 4 = .ok (.ifCond .ne 9, 3) := by decide +kernel
theorem dX9_deepest_7 : decode cX9_deepest 7 = .ok (.aload_n 0, 1) := by decide +kernel
theorem dX9_deepest_8 : decode cX9_deepest 8 = .ok (.iconst (-1), 1) := by decide +kernel
theorem dX9_deepest_9 : decode cX9_deepest 9 = .ok (.invokevirtual 79, 3) := by decide +kernel
theorem dX9_deepest_12 : decode cX9_deepest 12 = .ok (.ireturn, 1) := by decide +kernel
theorem dX9_deepest_13 : decode cX9_deepest 13 = .ok (.bipush (-9), 2) := by decide +kernel
theorem dX9_deepest_15 : decode cX9_deepest 15 = .ok (.istore_n 2, 1) := by decide +kernel
theorem dX9_deepest_16 : decode cX9_deepest 16 = .ok (.iconst 0, 1) := by decide +kernel
theorem dX9_deepest_17 : decode cX9_deepest 17 = .ok (.istore_n 3, 1) := by decide +kernel
theorem dX9_deepest_18 : decode cX9_deepest 18 = .ok (.iload_n 3, 1) := by decide +kernel
theorem dX9_deepest_19 : decode cX9_deepest 19 = .ok (.aload_n 0, 1) := by decide +kernel
theorem dX9_deepest_20 : decode cX9_deepest 20 = .ok (.getfield 65, 3) := by decide +kernel
theorem dX9_deepest_23 : decode cX9_deepest 23 = .ok (.if_icmp .ge 63, 3) := by decide +kernel
theorem dX9_deepest_26 : decode cX9_deepest 26 = .ok (.iload_n 3, 1) := by decide +kernel
theorem dX9_deepest_27 : decode cX9_deepest 27 = .ok (.iconst 1, 1) := by decide +kernel
theorem dX9_deepest_28 : decode cX9_deepest 28 = .ok (.iadd, 1) := by decide +kernel
theorem dX9_deepest_29 : decode cX9_deepest 29 = .ok (.istore 4, 2) := by decide +kernel
theorem dX9_deepest_31 : decode cX9_deepest 31 = .ok (.iload 4, 2) := by decide +kernel
theorem dX9_deepest_33 : decode cX9_deepest 33 = .ok (.aload_n 0, 1) := by decide +kernel
theorem dX9_deepest_34 : decode cX9_deepest 34 = .ok (.getfield 65, 3) := by decide +kernel
theorem dX9_deepest_37 : decode cX9_deepest 37 = .ok (.if_icmp .ge 43, 3) := by decide +kernel
theorem dX9_deepest_40 : decode cX9_deepest 40 = .ok (.aload_n 0, 1) := by decide +kernel
theorem dX9_deepest_41 : decode cX9_deepest 41 = .ok (.iload_n 3, 1) := by decide +kernel
theorem dX9_deepest_42 : decode cX9_deepest 42 = .ok (.iload 4, 2) := by decide +kernel
theorem dX9_deepest_44 : decode cX9_deepest 44 = .ok (.iload_n 1, 1) := by decide +kernel
theorem dX9_deepest_45 : decode cX9_deepest 45 = .ok (.invokevirtual 177, 3) := by decide +kernel
theorem dX9_deepest_48 : decode cX9_deepest 48 = .ok (.ifCond .eq 24, 3) := by decide +kernel
theorem dX9_deepest_51 : decode cX9_deepest 51 = .ok (.aload_n 0, 1) := by decide +kernel
theorem dX9_deepest_52 : decode cX9_deepest 52 = .ok (.iload_n 3, 1) := by decide +kernel
theorem dX9_deepest_53 : decode cX9_deepest 53 = .ok (.iload 4, 2) := by decide +kernel
theorem dX9_deepest_55 : decode cX9_deepest 55 = .ok (.invokevirtual 180, 3) := by decide +kernel
theorem dX9_deepest_58 : decode cX9_deepest 58 = .ok (.iload_n 2, 1) := by decide +kernel
theorem dX9_deepest_59 : decode cX9_deepest 59 = .ok (.if_icmp .le 13, 3) := by decide +kernel
theorem dX9_deepest_62 : decode cX9_deepest 62 = .ok (.aload_n 0, 1) := by decide +kernel
theorem dX9_deepest_63 : decode cX9_deepest 63 = .ok (.iload_n 3, 1) := by decide +kernel
theorem dX9_deepest_64 : decode cX9_deepest 64 = .ok (.iload 4, 2) := by decide +kernel
theorem dX9_deepest_66 : decode cX9_deepest 66 = .ok (.invokevirtual 180, 3) := by decide +kernel
theorem dX9_deepest_69 : decode cX9_deepest 69 = .ok (.goto 4, 3) := by decide +kernel
theorem dX9_deepest_72 : decode cX9_deepest 72 = .ok (.iload_n 2, 1) := by decide +kernel
theorem dX9_deepest_73 : decode cX9_deepest 73 = .ok (.istore_n 2, 1) := by decide +kernel
theorem dX9_deepest_74 : decode cX9_deepest 74 = .ok (.iinc 4 1, 3) := by decide +kernel
theorem dX9_deepest_77 : decode cX9_deepest 77 = .ok (.goto (-46), 3) := by decide +kernel
theorem dX9_deepest_80 : decode cX9_deepest 80 = .ok (.iinc 3 1, 3) := by decide +kernel
theorem dX9_deepest_83 : decode cX9_deepest 83 = .ok (.goto (-65), 3) := by decide +kernel
theorem dX9_deepest_86 : decode cX9_deepest 86 = .ok (.iload_n 2, 1) := by decide +kernel
theorem dX9_deepest_87 : decode cX9_deepest 87 = .ok (.ireturn, 1) := by decide +kernel
theorem dX9_findTwos_0 : decode cX9_findTwos 0 = .ok (.iconst 0, 1) := by decide +kernel
theorem dX9_findTwos_1 : decode cX9_findTwos 1 = .ok (.istore_n 3, 1) := by decide +kernel
theorem dX9_findTwos_2 : decode cX9_findTwos 2 = .ok (.iload_n 1, 1) := by decide +kernel
theorem dX9_findTwos_3 : decode cX9_findTwos 3 = .ok (.iload_n 3, 1) := by decide +kernel
theorem dX9_findTwos_4 : decode cX9_findTwos 4 = .ok (.invokestatic 174, 3) := by decide +kernel
theorem dX9_findTwos_7 : decode cX9_findTwos 7 = .ok (.ifCond .ne 9, 3) := by decide +kernel
theorem dX9_findTwos_10 : decode cX9_findTwos 10 = .ok (.iinc 3 1, 3) := by decide +kernel
theorem dX9_findTwos_13 : decode cX9_findTwos 13 = .ok (.goto (-11), 3) := by decide +kernel
theorem dX9_findTwos_16 : decode cX9_findTwos 16 = .ok (.iload_n 1, 1) := by decide +kernel
theorem dX9_findTwos_17 : decode cX9_findTwos 17 = .ok (.iconst 1, 1) := by decide +kernel
theorem dX9_findTwos_18 : decode cX9_findTwos 18 = .ok (.iload_n 3, 1) := by decide +kernel
theorem dX9_findTwos_19 : decode cX9_findTwos 19 = .ok (.ishl, 1) := by decide +kernel
theorem dX9_findTwos_20 : decode cX9_findTwos 20 = .ok (.iconst (-1), 1) := by decide +kernel
theorem dX9_findTwos_21 : decode cX9_findTwos 21 = .ok (.ixor, 1) := by decide +kernel
theorem dX9_findTwos_22 : decode cX9_findTwos 22 = .ok (.iand, 1) := by decide +kernel
theorem dX9_findTwos_23 : decode cX9_findTwos 23 = .ok (.istore 4, 2) := by decide +kernel
theorem dX9_findTwos_25 : decode cX9_findTwos 25 = .ok (.aload_n 0, 1) := by decide +kernel
theorem dX9_findTwos_26 : decode cX9_findTwos 26 = .ok (.getfield 52, 3) := by decide +kernel
theorem dX9_findTwos_29 : decode cX9_findTwos 29 = .ok (.iload 4, 2) := by decide +kernel
theorem dX9_findTwos_31 : decode cX9_findTwos 31 = .ok (.iaload, 1) := by decide +kernel
theorem dX9_findTwos_32 : decode cX9_findTwos 32 = .ok (.istore 5, 2) := by decide +kernel
theorem dX9_findTwos_34 : decode cX9_findTwos 34 = .ok (.iload_n 3, 1) := by decide +kernel
theorem dX9_findTwos_35 : decode cX9_findTwos 35 = .ok (.iconst 1, 1) := by decide +kernel
theorem dX9_findTwos_36 : decode cX9_findTwos 36 = .ok (.iadd, 1) := by decide +kernel
theorem dX9_findTwos_37 : decode cX9_findTwos 37 = .ok (.istore 6, 2) := by decide +kernel
theorem dX9_findTwos_39 : decode cX9_findTwos 39 = .ok (.iload 6, 2) := by decide +kernel
theorem dX9_findTwos_41 : decode cX9_findTwos 41 = .ok (.aload_n 0, 1) := by decide +kernel
theorem dX9_findTwos_42 : decode cX9_findTwos 42 = .ok (.getfield 65, 3) := by decide +kernel
theorem dX9_findTwos_45 : decode cX9_findTwos 45 = .ok (.if_icmp .ge 82, 3) := by decide +kernel
theorem dX9_findTwos_48 : decode cX9_findTwos 48 = .ok (.iload_n 1, 1) := by decide +kernel
theorem dX9_findTwos_49 : decode cX9_findTwos 49 = .ok (.iload 6, 2) := by decide +kernel
theorem dX9_findTwos_51 : decode cX9_findTwos 51 = .ok (.invokestatic 174, 3) := by decide +kernel
theorem dX9_findTwos_54 : decode cX9_findTwos 54 = .ok (.ifCond .eq 67, 3) := by decide +kernel
theorem dX9_findTwos_57 : decode cX9_findTwos 57 = .ok (.aload_n 0, 1) := by decide +kernel
theorem dX9_findTwos_58 : decode cX9_findTwos 58 = .ok (.getfield 19, 3) := by decide +kernel
theorem dX9_findTwos_61 : decode cX9_findTwos 61 = .ok (.iload_n 3, 1) := by decide +kernel
theorem dX9_findTwos_62 : decode cX9_findTwos 62 = .ok (.iaload, 1) := by decide +kernel
theorem dX9_findTwos_63 : decode cX9_findTwos 63 = .ok (.aload_n 0, 1) := by decide +kernel
theorem dX9_findTwos_64 : decode cX9_findTwos 64 = .ok (.getfield 19, 3) := by decide +kernel
theorem dX9_findTwos_67 : decode cX9_findTwos 67 = .ok (.iload 6, 2) := by decide +kernel
theorem dX9_findTwos_69 : decode cX9_findTwos 69 = .ok (.iaload, 1) := by decide +kernel
theorem dX9_findTwos_70 : decode cX9_findTwos 70 = .ok (.if_icmp .ne 51, 3) := by decide +kernel
theorem dX9_findTwos_73 : decode cX9_findTwos 73 = .ok (.aload_n 0, 1) := by decide +kernel
theorem dX9_findTwos_74 : decode cX9_findTwos 74 = .ok (.iload_n 3, 1) := by decide +kernel
theorem dX9_findTwos_75 : decode cX9_findTwos 75 = .ok (.iload 6, 2) := by decide +kernel
theorem dX9_findTwos_77 : decode cX9_findTwos 77 = .ok (.invokevirtual 180, 3) := by decide +kernel
theorem dX9_findTwos_80 : decode cX9_findTwos 80 = .ok (.iload_n 2, 1) := by decide +kernel
theorem dX9_findTwos_81 : decode cX9_findTwos 81 = .ok (.if_icmp .ge 6, 3) := by decide +kernel
theorem dX9_findTwos_84 : decode cX9_findTwos 84 = .ok (.goto 37, 3) := by decide +kernel
theorem dX9_findTwos_87 : decode cX9_findTwos 87 = .ok (.iconst 1, 1) := by decide +kernel
theorem dX9_findTwos_88 : decode cX9_findTwos 88 = .ok (.aload_n 0, 1) := by decide +kernel
theorem dX9_findTwos_89 : decode cX9_findTwos 89 = .ok (.getfield 52, 3) := by decide +kernel
theorem dX9_findTwos_92 : decode cX9_findTwos 92 = .ok (.iload 4, 2) := by decide +kernel
theorem dX9_findTwos_94 : decode cX9_findTwos 94 = .ok (.iconst 1, 1) := by decide +kernel
theorem dX9_findTwos_95 : decode cX9_findTwos 95 = .ok (.iload 6, 2) := by decide +kernel
theorem dX9_findTwos_97 : decode cX9_findTwos 97 = .ok (.ishl, 1) := by decide +kernel
theorem dX9_findTwos_98 : decode cX9_findTwos 98 = .ok (.iconst (-1), 1) := by decide +kernel
theorem dX9_findTwos_99 : decode cX9_findTwos 99 = .ok (.ixor, 1) := by decide +kernel
theorem dX9_findTwos_100 : decode cX9_findTwos 100 = .ok (.iand, 1) := by decide +kernel
theorem dX9_findTwos_101 : decode cX9_findTwos 101 = .ok (.iaload, 1) := by decide +kernel
theorem dX9_findTwos_102 : decode cX9_findTwos 102 = .ok (.iadd, 1) := by decide +kernel
theorem dX9_findTwos_103 : decode cX9_findTwos 103 = .ok (.istore 7, 2) := by decide +kernel
theorem dX9_findTwos_105 : decode cX9_findTwos 105 = .ok (.iload 7, 2) := by decide +kernel
theorem dX9_findTwos_107 : decode cX9_findTwos 107 = .ok (.iload 5, 2) := by decide +kernel
theorem dX9_findTwos_109 : decode cX9_findTwos 109 = .ok (.if_icmp .le 8, 3) := by decide +kernel
theorem dX9_findTwos_112 : decode cX9_findTwos 112 = .ok (.iload 7, 2) := by decide +kernel
theorem dX9_findTwos_114 : decode cX9_findTwos 114 = .ok (.goto 5, 3) := by decide +kernel
theorem dX9_findTwos_117 : decode cX9_findTwos 117 = .ok (.iload 5, 2) := by decide +kernel
theorem dX9_findTwos_119 : decode cX9_findTwos 119 = .ok (.istore 5, 2) := by decide +kernel
theorem dX9_findTwos_121 : decode cX9_findTwos 121 = .ok (.iinc 6 1, 3) := by decide +kernel
theorem dX9_findTwos_124 : decode cX9_findTwos 124 = .ok (.goto (-85), 3) := by decide +kernel
theorem dX9_findTwos_127 : decode cX9_findTwos 127 = .ok (.aload_n 0, 1) := by decide +kernel
theorem dX9_findTwos_128 : decode cX9_findTwos 128 = .ok (.getfield 52, 3) := by decide +kernel
theorem dX9_findTwos_131 : decode cX9_findTwos 131 = .ok (.iload_n 1, 1) := by decide +kernel
theorem dX9_findTwos_132 : decode cX9_findTwos 132 = .ok (.iload 5, 2) := by decide +kernel
theorem dX9_findTwos_134 : decode cX9_findTwos 134 = .ok (.iastore, 1) := by decide +kernel
theorem dX9_findTwos_135 : decode cX9_findTwos 135 = .ok (.return_, 1) := by decide +kernel
theorem dX9_pairs_0 : decode cX9_pairs 0 = .ok (.iload_n 1, 1) := by decide +kernel
theorem dX9_pairs_1 : decode cX9_pairs 1 = .ok (.iconst 0, 1) := by decide +kernel
theorem dX9_pairs_2 : decode cX9_pairs 2 = .ok (.bipush 99, 2) := by decide +kernel
theorem dX9_pairs_4 : decode cX9_pairs 4 = .ok (.invokestatic 72, 3) := by decide +kernel
theorem dX9_pairs_7 : decode cX9_pairs 7 = .ok (.istore_n 2, 1) := by decide +kernel
theorem dX9_pairs_8 : decode cX9_pairs 8 = .ok (.iload_n 2, 1) := by decide +kernel
theorem dX9_pairs_9 : decode cX9_pairs 9 = .ok (.ifCond .eq 9, 3) := by decide +kernel
theorem dX9_pairs_12 : decode cX9_pairs 12 = .ok (.aload_n 0, 1) := by decide +kernel
theorem dX9_pairs_13 : decode cX9_pairs 13 = .ok (.iload_n 2, 1) := by decide +kernel
theorem dX9_pairs_14 : decode cX9_pairs 14 = .ok (.invokevirtual 79, 3) := by decide +kernel
theorem dX9_pairs_17 : decode cX9_pairs 17 = .ok (.ireturn, 1) := by decide +kernel
theorem dX9_pairs_18 : decode cX9_pairs 18 = .ok (.aload_n 0, 1) := by decide +kernel
theorem dX9_pairs_19 : decode cX9_pairs 19 = .ok (.getfield 52, 3) := by decide +kernel
theorem dX9_pairs_22 : decode cX9_pairs 22 = .ok (.iconst 0, 1) := by decide +kernel
theorem dX9_pairs_23 : decode cX9_pairs 23 = .ok (.iconst 0, 1) := by decide +kernel
theorem dX9_pairs_24 : decode cX9_pairs 24 = .ok (.iastore, 1) := by decide +kernel
theorem dX9_pairs_25 : decode cX9_pairs 25 = .ok (.iconst 1, 1) := by decide +kernel
theorem dX9_pairs_26 : decode cX9_pairs 26 = .ok (.istore_n 3, 1) := by decide +kernel
theorem dX9_pairs_27 : decode cX9_pairs 27 = .ok (.iload_n 3, 1) := by decide +kernel
theorem dX9_pairs_28 : decode cX9_pairs 28 = .ok (.iconst 1, 1) := by decide +kernel
theorem dX9_pairs_29 : decode cX9_pairs 29 = .ok (.aload_n 0, 1) := by decide +kernel
theorem dX9_pairs_30 : decode cX9_pairs 30 = .ok (.getfield 65, 3) := by decide +kernel
theorem dX9_pairs_33 : decode cX9_pairs 33 = .ok (.ishl, 1) := by decide +kernel
theorem dX9_pairs_34 : decode cX9_pairs 34 = .ok (.if_icmp .ge 15, 3) := by decide +kernel
theorem dX9_pairs_37 : decode cX9_pairs 37 = .ok (.aload_n 0, 1) := by decide +kernel
theorem dX9_pairs_38 : decode cX9_pairs 38 = .ok (.iload_n 3, 1) := by decide +kernel
theorem dX9_pairs_39 : decode cX9_pairs 39 = .ok (.iload_n 1, 1) := by decide +kernel
theorem dX9_pairs_40 : decode cX9_pairs 40 = .ok (.invokevirtual 265, 3) := by decide +kernel
theorem dX9_pairs_43 : decode cX9_pairs 43 = .ok (.iinc 3 1, 3) := by decide +kernel
theorem dX9_pairs_46 : decode cX9_pairs 46 = .ok (.goto (-19), 3) := by decide +kernel
theorem dX9_pairs_49 : decode cX9_pairs 49 = .ok (.aload_n 0, 1) := by decide +kernel
theorem dX9_pairs_50 : decode cX9_pairs 50 = .ok (.getfield 52, 3) := by decide +kernel
theorem dX9_pairs_53 : decode cX9_pairs 53 = .ok (.iconst 1, 1) := by decide +kernel
theorem dX9_pairs_54 : decode cX9_pairs 54 = .ok (.aload_n 0, 1) := by decide +kernel
theorem dX9_pairs_55 : decode cX9_pairs 55 = .ok (.getfield 65, 3) := by decide +kernel
theorem dX9_pairs_58 : decode cX9_pairs 58 = .ok (.ishl, 1) := by decide +kernel
theorem dX9_pairs_59 : decode cX9_pairs 59 = .ok (.iconst 1, 1) := by decide +kernel
theorem dX9_pairs_60 : decode cX9_pairs 60 = .ok (.isub, 1) := by decide +kernel
theorem dX9_pairs_61 : decode cX9_pairs 61 = .ok (.iaload, 1) := by decide +kernel
theorem dX9_pairs_62 : decode cX9_pairs 62 = .ok (.ireturn, 1) := by decide +kernel
theorem dX9_worst_0 : decode cX9_worst 0 = .ok (.iload_n 1, 1) := by decide +kernel
theorem dX9_worst_1 : decode cX9_worst 1 = .ok (.iconst 0, 1) := by decide +kernel
theorem dX9_worst_2 : decode cX9_worst 2 = .ok (.iconst 2, 1) := by decide +kernel
theorem dX9_worst_3 : decode cX9_worst 3 = .ok (.invokestatic 90, 3) := by decide +kernel
theorem dX9_worst_6 : decode cX9_worst 6 = .ok (.ifCond .ne 10, 3) := by decide +kernel
theorem dX9_worst_9 : decode cX9_worst 9 = .ok (.aload_n 0, 1) := by decide +kernel
theorem dX9_worst_10 : decode cX9_worst 10 = .ok (.bipush (-2), 2) := by decide +kernel
theorem dX9_worst_12 : decode cX9_worst 12 = .ok (.invokevirtual 79, 3) := by decide +kernel
theorem dX9_worst_15 : decode cX9_worst 15 = .ok (.ireturn, 1) := by decide +kernel
theorem dX9_worst_16 : decode cX9_worst 16 = .ok (.bipush (-9), 2) := by decide +kernel
theorem dX9_worst_18 : decode cX9_worst 18 = .ok (.istore_n 2, 1) := by decide +kernel
theorem dX9_worst_19 : decode cX9_worst 19 = .ok (.bipush (-9), 2) := by decide +kernel
theorem dX9_worst_21 : decode cX9_worst 21 = .ok (.istore_n 3, 1) := by decide +kernel
theorem dX9_worst_22 : decode cX9_worst 22 = .ok (.iconst 0, 1) := by decide +kernel
theorem dX9_worst_23 : decode cX9_worst 23 = .ok (.istore 4, 2) := by decide +kernel
theorem dX9_worst_25 : decode cX9_worst 25 = .ok (.iconst 0, 1) := by decide +kernel
theorem dX9_worst_26 : decode cX9_worst 26 = .ok (.istore 5, 2) := by decide +kernel
theorem dX9_worst_28 : decode cX9_worst 28 = .ok (.iload 5, 2) := by decide +kernel
theorem dX9_worst_30 : decode cX9_worst 30 = .ok (.bipush 60, 2) := by decide +kernel
theorem dX9_worst_32 : decode cX9_worst 32 = .ok (.if_icmp .ge 90, 3) := by decide +kernel
theorem dX9_worst_35 : decode cX9_worst 35 = .ok (.iload 5, 2) := by decide +kernel
theorem dX9_worst_37 : decode cX9_worst 37 = .ok (.bipush 10, 2) := by decide +kernel
theorem dX9_worst_39 : decode cX9_worst 39 = .ok (.idiv, 1) := by decide +kernel
theorem dX9_worst_40 : decode cX9_worst 40 = .ok (.istore 6, 2) := by decide +kernel
theorem dX9_worst_42 : decode cX9_worst 42 = .ok (.iload 5, 2) := by decide +kernel
theorem dX9_worst_44 : decode cX9_worst 44 = .ok (.bipush 10, 2) := by decide +kernel
theorem dX9_worst_46 : decode cX9_worst 46 = .ok (.irem, 1) := by decide +kernel
theorem dX9_worst_47 : decode cX9_worst 47 = .ok (.istore 7, 2) := by decide +kernel
theorem dX9_worst_49 : decode cX9_worst 49 = .ok (.iload 6, 2) := by decide +kernel
theorem dX9_worst_51 : decode cX9_worst 51 = .ok (.iload 7, 2) := by decide +kernel
theorem dX9_worst_53 : decode cX9_worst 53 = .ok (.if_icmp .ge 63, 3) := by decide +kernel
theorem dX9_worst_56 : decode cX9_worst 56 = .ok (.iload 7, 2) := by decide +kernel
theorem dX9_worst_58 : decode cX9_worst 58 = .ok (.aload_n 0, 1) := by decide +kernel
theorem dX9_worst_59 : decode cX9_worst 59 = .ok (.getfield 65, 3) := by decide +kernel
theorem dX9_worst_62 : decode cX9_worst 62 = .ok (.if_icmp .lt 6, 3) := by decide +kernel
theorem dX9_worst_65 : decode cX9_worst 65 = .ok (.goto 51, 3) := by decide +kernel
theorem dX9_worst_68 : decode cX9_worst 68 = .ok (.iload 4, 2) := by decide +kernel
theorem dX9_worst_70 : decode cX9_worst 70 = .ok (.aload_n 0, 1) := by decide +kernel
theorem dX9_worst_71 : decode cX9_worst 71 = .ok (.iload 6, 2) := by decide +kernel
theorem dX9_worst_73 : decode cX9_worst 73 = .ok (.iload 7, 2) := by decide +kernel
theorem dX9_worst_75 : decode cX9_worst 75 = .ok (.invokevirtual 180, 3) := by decide +kernel
theorem dX9_worst_78 : decode cX9_worst 78 = .ok (.ifCond .ne 7, 3) := by decide +kernel
theorem dX9_worst_81 : decode cX9_worst 81 = .ok (.iconst 1, 1) := by decide +kernel
theorem dX9_worst_82 : decode cX9_worst 82 = .ok (.goto 4, 3) := by decide +kernel
theorem dX9_worst_85 : decode cX9_worst 85 = .ok (.iconst 0, 1) := by decide +kernel
theorem dX9_worst_86 : decode cX9_worst 86 = .ok (.iadd, 1) := by decide +kernel
theorem dX9_worst_87 : decode cX9_worst 87 = .ok (.istore 4, 2) := by decide +kernel
theorem dX9_worst_89 : decode cX9_worst 89 = .ok (.aload_n 0, 1) := by decide +kernel
theorem dX9_worst_90 : decode cX9_worst 90 = .ok (.iload 6, 2) := by decide +kernel
theorem dX9_worst_92 : decode cX9_worst 92 = .ok (.iload 7, 2) := by decide +kernel
theorem dX9_worst_94 : decode cX9_worst 94 = .ok (.invokevirtual 180, 3) := by decide +kernel
theorem dX9_worst_97 : decode cX9_worst 97 = .ok (.iload_n 3, 1) := by decide +kernel
theorem dX9_worst_98 : decode cX9_worst 98 = .ok (.if_icmp .gt 6, 3) := by decide +kernel
theorem dX9_worst_101 : decode cX9_worst 101 = .ok (.goto 15, 3) := by decide +kernel
theorem dX9_worst_104 : decode cX9_worst 104 = .ok (.iload 5, 2) := by decide +kernel
theorem dX9_worst_106 : decode cX9_worst 106 = .ok (.istore_n 2, 1) := by decide +kernel
theorem dX9_worst_107 : decode cX9_worst 107 = .ok (.aload_n 0, 1) := by decide +kernel
theorem dX9_worst_108 : decode cX9_worst 108 = .ok (.iload 6, 2) := by decide +kernel
theorem dX9_worst_110 : decode cX9_worst 110 = .ok (.iload 7, 2) := by decide +kernel
theorem dX9_worst_112 : decode cX9_worst 112 = .ok (.invokevirtual 180, 3) := by decide +kernel
theorem dX9_worst_115 : decode cX9_worst 115 = .ok (.istore_n 3, 1) := by decide +kernel
theorem dX9_worst_116 : decode cX9_worst 116 = .ok (.iinc 5 1, 3) := by decide +kernel
theorem dX9_worst_119 : decode cX9_worst 119 = .ok (.goto (-91), 3) := by decide +kernel
theorem dX9_worst_122 : decode cX9_worst 122 = .ok (.iload_n 1, 1) := by decide +kernel
theorem dX9_worst_123 : decode cX9_worst 123 = .ok (.ifCond .ne 7, 3) := by decide +kernel
theorem dX9_worst_126 : decode cX9_worst 126 = .ok (.iload_n 2, 1) := by decide +kernel
theorem dX9_worst_127 : decode cX9_worst 127 = .ok (.goto 14, 3) := by decide +kernel
theorem dX9_worst_130 : decode cX9_worst 130 = .ok (.iload_n 1, 1) := by decide +kernel
theorem dX9_worst_131 : decode cX9_worst 131 = .ok (.iconst 1, 1) := by decide +kernel
theorem dX9_worst_132 : decode cX9_worst 132 = .ok (.if_icmp .ne 7, 3) := by decide +kernel
theorem dX9_worst_135 : decode cX9_worst 135 = .ok (.iload_n 3, 1) := by decide +kernel
theorem dX9_worst_136 : decode cX9_worst 136 = .ok (.goto 5, 3) := by decide +kernel
theorem dX9_worst_139 : decode cX9_worst 139 = .ok (.iload 4, 2) := by decide +kernel
theorem dX9_worst_141 : decode cX9_worst 141 = .ok (.ireturn, 1) := by decide +kernel
theorem dX9_opensSo_0 : decode cX9_opensSo 0 = .ok (.aload_n 0, 1) := by decide +kernel
theorem dX9_opensSo_1 : decode cX9_opensSo 1 = .ok (.invokevirtual 217, 3) := by decide +kernel
theorem dX9_opensSo_4 : decode cX9_opensSo 4 = .ok (.iconst 1, 1) := by decide +kernel
theorem dX9_opensSo_5 : decode cX9_opensSo 5 = .ok (.istore_n 1, 1) := by decide +kernel
theorem dX9_opensSo_6 : decode cX9_opensSo 6 = .ok (.iconst 0, 1) := by decide +kernel
theorem dX9_opensSo_7 : decode cX9_opensSo 7 = .ok (.istore_n 2, 1) := by decide +kernel
theorem dX9_opensSo_8 : decode cX9_opensSo 8 = .ok (.iload_n 2, 1) := by decide +kernel
theorem dX9_opensSo_9 : decode cX9_opensSo 9 = .ok (.aload_n 0, 1) := by decide +kernel
theorem dX9_opensSo_10 : decode cX9_opensSo 10 = .ok (.getfield 268, 3) := by decide +kernel
theorem dX9_opensSo_13 : decode cX9_opensSo 13 = .ok (.if_icmp .ge 39, 3) := by decide +kernel
theorem dX9_opensSo_16 : decode cX9_opensSo 16 = .ok (.iload_n 1, 1) := by decide +kernel
theorem dX9_opensSo_17 : decode cX9_opensSo 17 = .ok (.ifCond .eq 35, 3) := by decide +kernel
theorem dX9_opensSo_20 : decode cX9_opensSo 20 = .ok (.aload_n 0, 1) := by decide +kernel
theorem dX9_opensSo_21 : decode cX9_opensSo 21 = .ok (.invokevirtual 211, 3) := by decide +kernel
theorem dX9_opensSo_24 : decode cX9_opensSo 24 = .ok (.invokestatic 214, 3) := by decide +kernel
theorem dX9_opensSo_27 : decode cX9_opensSo 27 = .ok (.aload_n 0, 1) := by decide +kernel
theorem dX9_opensSo_28 : decode cX9_opensSo 28 = .ok (.getfield 55, 3) := by decide +kernel
theorem dX9_opensSo_31 : decode cX9_opensSo 31 = .ok (.iload_n 2, 1) := by decide +kernel
theorem dX9_opensSo_32 : decode cX9_opensSo 32 = .ok (.iaload, 1) := by decide +kernel
theorem dX9_opensSo_33 : decode cX9_opensSo 33 = .ok (.if_icmp .ne 7, 3) := by decide +kernel
theorem dX9_opensSo_36 : decode cX9_opensSo 36 = .ok (.iconst 1, 1) := by decide +kernel
theorem dX9_opensSo_37 : decode cX9_opensSo 37 = .ok (.goto 4, 3) := by decide +kernel
theorem dX9_opensSo_40 : decode cX9_opensSo 40 = .ok (.iconst 0, 1) := by decide +kernel
theorem dX9_opensSo_41 : decode cX9_opensSo 41 = .ok (.istore_n 1, 1) := by decide +kernel
theorem dX9_opensSo_42 : decode cX9_opensSo 42 = .ok (.aload_n 0, 1) := by decide +kernel
theorem dX9_opensSo_43 : decode cX9_opensSo 43 = .ok (.invokevirtual 202, 3) := by decide +kernel
theorem dX9_opensSo_46 : decode cX9_opensSo 46 = .ok (.iinc 2 1, 3) := by decide +kernel
theorem dX9_opensSo_49 : decode cX9_opensSo 49 = .ok (.goto (-41), 3) := by decide +kernel
theorem dX9_opensSo_52 : decode cX9_opensSo 52 = .ok (.aload_n 0, 1) := by decide +kernel
theorem dX9_opensSo_53 : decode cX9_opensSo 53 = .ok (.invokevirtual 220, 3) := by decide +kernel
theorem dX9_opensSo_56 : decode cX9_opensSo 56 = .ok (.iload_n 1, 1) := by decide +kernel
theorem dX9_opensSo_57 : decode cX9_opensSo 57 = .ok (.ireturn, 1) := by decide +kernel
theorem dX9_whoHates_0 : decode cX9_whoHates 0 = .ok (.aload_n 0, 1) := by decide +kernel
theorem dX9_whoHates_1 : decode cX9_whoHates 1 = .ok (.iload_n 1, 1) := by decide +kernel
theorem dX9_whoHates_2 : decode cX9_whoHates 2 = .ok (.iload_n 2, 1) := by decide +kernel
theorem dX9_whoHates_3 : decode cX9_whoHates 3 = .ok (.invokevirtual 125, 3) := by decide +kernel
theorem dX9_whoHates_6 : decode cX9_whoHates 6 = .ok (.ifCond .ne 7, 3) := by decide +kernel
theorem dX9_whoHates_9 : decode cX9_whoHates 9 = .ok (.iconst (-1), 1) := by decide +kernel
theorem dX9_whoHates_10 : decode cX9_whoHates 10 = .ok (.goto 18, 3) := by decide +kernel
theorem dX9_whoHates_13 : decode cX9_whoHates 13 = .ok (.iload_n 3, 1) := by decide +kernel
theorem dX9_whoHates_14 : decode cX9_whoHates 14 = .ok (.iconst 0, 1) := by decide +kernel
theorem dX9_whoHates_15 : decode cX9_whoHates 15 = .ok (.iconst 2, 1) := by decide +kernel
theorem dX9_whoHates_16 : decode cX9_whoHates 16 = .ok (.invokestatic 90, 3) := by decide +kernel
theorem dX9_whoHates_19 : decode cX9_whoHates 19 = .ok (.ifCond .ne 8, 3) := by decide +kernel
theorem dX9_whoHates_22 : decode cX9_whoHates 22 = .ok (.bipush (-2), 2) := by decide +kernel
theorem dX9_whoHates_24 : decode cX9_whoHates 24 = .ok (.goto 4, 3) := by decide +kernel
theorem dX9_whoHates_27 : decode cX9_whoHates 27 = .ok (.iconst 0, 1) := by decide +kernel
theorem dX9_whoHates_28 : decode cX9_whoHates 28 = .ok (.istore 4, 2) := by decide +kernel
theorem dX9_whoHates_30 : decode cX9_whoHates 30 = .ok (.iload 4, 2) := by decide +kernel
theorem dX9_whoHates_32 : decode cX9_whoHates 32 = .ok (.ifCond .eq 10, 3) := by decide +kernel
theorem dX9_whoHates_35 : decode cX9_whoHates 35 = .ok (.aload_n 0, 1) := by decide +kernel
theorem dX9_whoHates_36 : decode cX9_whoHates 36 = .ok (.iload 4, 2) := by decide +kernel
theorem dX9_whoHates_38 : decode cX9_whoHates 38 = .ok (.invokevirtual 79, 3) := by decide +kernel
theorem dX9_whoHates_41 : decode cX9_whoHates 41 = .ok (.ireturn, 1) := by decide +kernel
theorem dX9_whoHates_42 : decode cX9_whoHates 42 = .ok (.aload_n 0, 1) := by decide +kernel
theorem dX9_whoHates_43 : decode cX9_whoHates 43 = .ok (.iload_n 1, 1) := by decide +kernel
theorem dX9_whoHates_44 : decode cX9_whoHates 44 = .ok (.iload_n 2, 1) := by decide +kernel
theorem dX9_whoHates_45 : decode cX9_whoHates 45 = .ok (.invokevirtual 180, 3) := by decide +kernel
theorem dX9_whoHates_48 : decode cX9_whoHates 48 = .ok (.istore 5, 2) := by decide +kernel
theorem dX9_whoHates_50 : decode cX9_whoHates 50 = .ok (.iconst 0, 1) := by decide +kernel
theorem dX9_whoHates_51 : decode cX9_whoHates 51 = .ok (.istore 6, 2) := by decide +kernel
theorem dX9_whoHates_53 : decode cX9_whoHates 53 = .ok (.bipush (-9), 2) := by decide +kernel
theorem dX9_whoHates_55 : decode cX9_whoHates 55 = .ok (.istore 7, 2) := by decide +kernel
theorem dX9_whoHates_57 : decode cX9_whoHates 57 = .ok (.bipush (-9), 2) := by decide +kernel
theorem dX9_whoHates_59 : decode cX9_whoHates 59 = .ok (.istore 8, 2) := by decide +kernel
theorem dX9_whoHates_61 : decode cX9_whoHates 61 = .ok (.iconst 0, 1) := by decide +kernel
theorem dX9_whoHates_62 : decode cX9_whoHates 62 = .ok (.istore 9, 2) := by decide +kernel
theorem dX9_whoHates_64 : decode cX9_whoHates 64 = .ok (.iload 9, 2) := by decide +kernel
theorem dX9_whoHates_66 : decode cX9_whoHates 66 = .ok (.bipush 99, 2) := by decide +kernel
theorem dX9_whoHates_68 : decode cX9_whoHates 68 = .ok (.if_icmp .gt 48, 3) := by decide +kernel
theorem dX9_whoHates_71 : decode cX9_whoHates 71 = .ok (.aload_n 0, 1) := by decide +kernel
theorem dX9_whoHates_72 : decode cX9_whoHates 72 = .ok (.iload_n 1, 1) := by decide +kernel
theorem dX9_whoHates_73 : decode cX9_whoHates 73 = .ok (.iload_n 2, 1) := by decide +kernel
theorem dX9_whoHates_74 : decode cX9_whoHates 74 = .ok (.iload 9, 2) := by decide +kernel
theorem dX9_whoHates_76 : decode cX9_whoHates 76 = .ok (.invokevirtual 128, 3) := by decide +kernel
theorem dX9_whoHates_79 : decode cX9_whoHates 79 = .ok (.aload_n 0, 1) := by decide +kernel
theorem dX9_whoHates_80 : decode cX9_whoHates 80 = .ok (.invokevirtual 271, 3) := by decide +kernel
theorem dX9_whoHates_83 : decode cX9_whoHates 83 = .ok (.ifCond .ne 6, 3) := by decide +kernel
theorem dX9_whoHates_86 : decode cX9_whoHates 86 = .ok (.goto 24, 3) := by decide +kernel
theorem dX9_whoHates_89 : decode cX9_whoHates 89 = .ok (.iinc 6 1, 3) := by decide +kernel
theorem dX9_whoHates_92 : decode cX9_whoHates 92 = .ok (.iload 7, 2) := by decide +kernel
theorem dX9_whoHates_94 : decode cX9_whoHates 94 = .ok (.ifCond .ge 8, 3) := by decide +kernel
theorem dX9_whoHates_97 : decode cX9_whoHates 97 = .ok (.iload 9, 2) := by decide +kernel
theorem dX9_whoHates_99 : decode cX9_whoHates 99 = .ok (.goto 5, 3) := by decide +kernel
theorem dX9_whoHates_102 : decode cX9_whoHates 102 = .ok (.iload 7, 2) := by decide +kernel
theorem dX9_whoHates_104 : decode cX9_whoHates 104 = .ok (.istore 7, 2) := by decide +kernel
theorem dX9_whoHates_106 : decode cX9_whoHates 106 = .ok (.iload 9, 2) := by decide +kernel
theorem dX9_whoHates_108 : decode cX9_whoHates 108 = .ok (.istore 8, 2) := by decide +kernel
theorem dX9_whoHates_110 : decode cX9_whoHates 110 = .ok (.iinc 9 1, 3) := by decide +kernel
theorem dX9_whoHates_113 : decode cX9_whoHates 113 = .ok (.goto (-49), 3) := by decide +kernel
theorem dX9_whoHates_116 : decode cX9_whoHates 116 = .ok (.aload_n 0, 1) := by decide +kernel
theorem dX9_whoHates_117 : decode cX9_whoHates 117 = .ok (.iload_n 1, 1) := by decide +kernel
theorem dX9_whoHates_118 : decode cX9_whoHates 118 = .ok (.iload_n 2, 1) := by decide +kernel
theorem dX9_whoHates_119 : decode cX9_whoHates 119 = .ok (.iload 5, 2) := by decide +kernel
theorem dX9_whoHates_121 : decode cX9_whoHates 121 = .ok (.invokevirtual 128, 3) := by decide +kernel
theorem dX9_whoHates_124 : decode cX9_whoHates 124 = .ok (.iload_n 3, 1) := by decide +kernel
theorem dX9_whoHates_125 : decode cX9_whoHates 125 = .ok (.ifCond .ne 8, 3) := by decide +kernel
theorem dX9_whoHates_128 : decode cX9_whoHates 128 = .ok (.iload 6, 2) := by decide +kernel
theorem dX9_whoHates_130 : decode cX9_whoHates 130 = .ok (.goto 15, 3) := by decide +kernel
theorem dX9_whoHates_133 : decode cX9_whoHates 133 = .ok (.iload_n 3, 1) := by decide +kernel
theorem dX9_whoHates_134 : decode cX9_whoHates 134 = .ok (.iconst 1, 1) := by decide +kernel
theorem dX9_whoHates_135 : decode cX9_whoHates 135 = .ok (.if_icmp .ne 8, 3) := by decide +kernel
theorem dX9_whoHates_138 : decode cX9_whoHates 138 = .ok (.iload 7, 2) := by decide +kernel
theorem dX9_whoHates_140 : decode cX9_whoHates 140 = .ok (.goto 5, 3) := by decide +kernel
theorem dX9_whoHates_143 : decode cX9_whoHates 143 = .ok (.iload 8, 2) := by decide +kernel
theorem dX9_whoHates_145 : decode cX9_whoHates 145 = .ok (.ireturn, 1) := by decide +kernel
theorem dX9_hatesSo_0 : decode cX9_hatesSo 0 = .ok (.aload_n 0, 1) := by decide +kernel
theorem dX9_hatesSo_1 : decode cX9_hatesSo 1 = .ok (.invokevirtual 217, 3) := by decide +kernel
theorem dX9_hatesSo_4 : decode cX9_hatesSo 4 = .ok (.iconst 1, 1) := by decide +kernel
theorem dX9_hatesSo_5 : decode cX9_hatesSo 5 = .ok (.istore_n 3, 1) := by decide +kernel
theorem dX9_hatesSo_6 : decode cX9_hatesSo 6 = .ok (.iconst 0, 1) := by decide +kernel
theorem dX9_hatesSo_7 : decode cX9_hatesSo 7 = .ok (.istore 4, 2) := by decide +kernel
theorem dX9_hatesSo_9 : decode cX9_hatesSo 9 = .ok (.iload 4, 2) := by decide +kernel
theorem dX9_hatesSo_11 : decode cX9_hatesSo 11 = .ok (.aload_n 0, 1) := by decide +kernel
theorem dX9_hatesSo_12 : decode cX9_hatesSo 12 = .ok (.getfield 268, 3) := by decide +kernel
theorem dX9_hatesSo_15 : decode cX9_hatesSo 15 = .ok (.if_icmp .ge 39, 3) := by decide +kernel
theorem dX9_hatesSo_18 : decode cX9_hatesSo 18 = .ok (.iload_n 3, 1) := by decide +kernel
theorem dX9_hatesSo_19 : decode cX9_hatesSo 19 = .ok (.ifCond .eq 35, 3) := by decide +kernel
theorem dX9_hatesSo_22 : decode cX9_hatesSo 22 = .ok (.aload_n 0, 1) := by decide +kernel
theorem dX9_hatesSo_23 : decode cX9_hatesSo 23 = .ok (.iload_n 1, 1) := by decide +kernel
theorem dX9_hatesSo_24 : decode cX9_hatesSo 24 = .ok (.iload_n 2, 1) := by decide +kernel
theorem dX9_hatesSo_25 : decode cX9_hatesSo 25 = .ok (.invokevirtual 180, 3) := by decide +kernel
theorem dX9_hatesSo_28 : decode cX9_hatesSo 28 = .ok (.aload_n 0, 1) := by decide +kernel
theorem dX9_hatesSo_29 : decode cX9_hatesSo 29 = .ok (.getfield 55, 3) := by decide +kernel
theorem dX9_hatesSo_32 : decode cX9_hatesSo 32 = .ok (.iload 4, 2) := by decide +kernel
theorem dX9_hatesSo_34 : decode cX9_hatesSo 34 = .ok (.iaload, 1) := by decide +kernel
theorem dX9_hatesSo_35 : decode cX9_hatesSo 35 = .ok (.if_icmp .ne 7, 3) := by decide +kernel
theorem dX9_hatesSo_38 : decode cX9_hatesSo 38 = .ok (.iconst 1, 1) := by decide +kernel
theorem dX9_hatesSo_39 : decode cX9_hatesSo 39 = .ok (.goto 4, 3) := by decide +kernel
theorem dX9_hatesSo_42 : decode cX9_hatesSo 42 = .ok (.iconst 0, 1) := by decide +kernel
theorem dX9_hatesSo_43 : decode cX9_hatesSo 43 = .ok (.istore_n 3, 1) := by decide +kernel
theorem dX9_hatesSo_44 : decode cX9_hatesSo 44 = .ok (.aload_n 0, 1) := by decide +kernel
theorem dX9_hatesSo_45 : decode cX9_hatesSo 45 = .ok (.invokevirtual 202, 3) := by decide +kernel
theorem dX9_hatesSo_48 : decode cX9_hatesSo 48 = .ok (.iinc 4 1, 3) := by decide +kernel
theorem dX9_hatesSo_51 : decode cX9_hatesSo 51 = .ok (.goto (-42), 3) := by decide +kernel
theorem dX9_hatesSo_54 : decode cX9_hatesSo 54 = .ok (.aload_n 0, 1) := by decide +kernel
theorem dX9_hatesSo_55 : decode cX9_hatesSo 55 = .ok (.invokevirtual 220, 3) := by decide +kernel
theorem dX9_hatesSo_58 : decode cX9_hatesSo 58 = .ok (.iload_n 3, 1) := by decide +kernel
theorem dX9_hatesSo_59 : decode cX9_hatesSo 59 = .ok (.ireturn, 1) := by decide +kernel
theorem dX9_bitsFor_0 : decode cX9_bitsFor 0 = .ok (.aload_n 1, 1) := by decide +kernel
theorem dX9_bitsFor_1 : decode cX9_bitsFor 1 = .ok (.iload_n 2, 1) := by decide +kernel
theorem dX9_bitsFor_2 : decode cX9_bitsFor 2 = .ok (.iaload, 1) := by decide +kernel
theorem dX9_bitsFor_3 : decode cX9_bitsFor 3 = .ok (.istore 5, 2) := by decide +kernel
theorem dX9_bitsFor_5 : decode cX9_bitsFor 5 = .ok (.iconst 0, 1) := by decide +kernel
theorem dX9_bitsFor_6 : decode cX9_bitsFor 6 = .ok (.istore 6, 2) := by decide +kernel
theorem dX9_bitsFor_8 : decode cX9_bitsFor 8 = .ok (.iconst 0, 1) := by decide +kernel
theorem dX9_bitsFor_9 : decode cX9_bitsFor 9 = .ok (.istore 7, 2) := by decide +kernel
theorem dX9_bitsFor_11 : decode cX9_bitsFor 11 = .ok (.iload 7, 2) := by decide +kernel
theorem dX9_bitsFor_13 : decode cX9_bitsFor 13 = .ok (.iload 4, 2) := by decide +kernel
theorem dX9_bitsFor_15 : decode cX9_bitsFor 15 = .ok (.if_icmp .ge 36, 3) := by decide +kernel
theorem dX9_bitsFor_18 : decode cX9_bitsFor 18 = .ok (.aload_n 1, 1) := by decide +kernel
theorem dX9_bitsFor_19 : decode cX9_bitsFor 19 = .ok (.iload_n 2, 1) := by decide +kernel
theorem dX9_bitsFor_20 : decode cX9_bitsFor 20 = .ok (.iload 7, 2) := by decide +kernel
theorem dX9_bitsFor_22 : decode cX9_bitsFor 22 = .ok (.iastore, 1) := by decide +kernel
theorem dX9_bitsFor_23 : decode cX9_bitsFor 23 = .ok (.iload 6, 2) := by decide +kernel
theorem dX9_bitsFor_25 : decode cX9_bitsFor 25 = .ok (.aload_n 0, 1) := by decide +kernel
theorem dX9_bitsFor_26 : decode cX9_bitsFor 26 = .ok (.iload_n 2, 1) := by decide +kernel
theorem dX9_bitsFor_27 : decode cX9_bitsFor 27 = .ok (.iload_n 3, 1) := by decide +kernel
theorem dX9_bitsFor_28 : decode cX9_bitsFor 28 = .ok (.invokevirtual 274, 3) := by decide +kernel
theorem dX9_bitsFor_31 : decode cX9_bitsFor 31 = .ok (.ifCond .eq 10, 3) := by decide +kernel
theorem dX9_bitsFor_34 : decode cX9_bitsFor 34 = .ok (.iconst 1, 1) := by decide +kernel
theorem dX9_bitsFor_35 : decode cX9_bitsFor 35 = .ok (.iload 7, 2) := by decide +kernel
theorem dX9_bitsFor_37 : decode cX9_bitsFor 37 = .ok (.ishl, 1) := by decide +kernel
theorem dX9_bitsFor_38 : decode cX9_bitsFor 38 = .ok (.goto 4, 3) := by decide +kernel
theorem dX9_bitsFor_41 : decode cX9_bitsFor 41 = .ok (.iconst 0, 1) := by decide +kernel
theorem dX9_bitsFor_42 : decode cX9_bitsFor 42 = .ok (.ior, 1) := by decide +kernel
theorem dX9_bitsFor_43 : decode cX9_bitsFor 43 = .ok (.istore 6, 2) := by decide +kernel
theorem dX9_bitsFor_45 : decode cX9_bitsFor 45 = .ok (.iinc 7 1, 3) := by decide +kernel
theorem dX9_bitsFor_48 : decode cX9_bitsFor 48 = .ok (.goto (-37), 3) := by decide +kernel
theorem dX9_bitsFor_51 : decode cX9_bitsFor 51 = .ok (.aload_n 1, 1) := by decide +kernel
theorem dX9_bitsFor_52 : decode cX9_bitsFor 52 = .ok (.iload_n 2, 1) := by decide +kernel
theorem dX9_bitsFor_53 : decode cX9_bitsFor 53 = .ok (.iload 5, 2) := by decide +kernel
theorem dX9_bitsFor_55 : decode cX9_bitsFor 55 = .ok (.iastore, 1) := by decide +kernel
theorem dX9_bitsFor_56 : decode cX9_bitsFor 56 = .ok (.iload 6, 2) := by decide +kernel
theorem dX9_bitsFor_58 : decode cX9_bitsFor 58 = .ok (.ireturn, 1) := by decide +kernel
theorem dX9_whatKind_0 : decode cX9_whatKind 0 = .ok (.aload_n 0, 1) := by decide +kernel
theorem dX9_whatKind_1 : decode cX9_whatKind 1 = .ok (.iload_n 1, 1) := by decide +kernel
theorem dX9_whatKind_2 : decode cX9_whatKind 2 = .ok (.iload_n 2, 1) := by decide +kernel
theorem dX9_whatKind_3 : decode cX9_whatKind 3 = .ok (.invokevirtual 125, 3) := by decide +kernel
theorem dX9_whatKind_6 : decode cX9_whatKind 6 = .ok (.ifCond .ne 7, 3) := by decide +kernel
theorem dX9_whatKind_9 : decode cX9_whatKind 9 = .ok (.iconst (-1), 1) := by decide +kernel
theorem dX9_whatKind_10 : decode cX9_whatKind 10 = .ok (.goto 18, 3) := by decide +kernel
theorem dX9_whatKind_13 : decode cX9_whatKind 13 = .ok (.iload_n 3, 1) := by decide +kernel
theorem dX9_whatKind_14 : decode cX9_whatKind 14 = .ok (.iconst 0, 1) := by decide +kernel
theorem dX9_whatKind_15 : decode cX9_whatKind 15 = .ok (.iconst 1, 1) := by decide +kernel
theorem dX9_whatKind_16 : decode cX9_whatKind 16 = .ok (.invokestatic 90, 3) := by decide +kernel
theorem dX9_whatKind_19 : decode cX9_whatKind 19 = .ok (.ifCond .ne 8, 3) := by decide +kernel
theorem dX9_whatKind_22 : decode cX9_whatKind 22 = .ok (.bipush (-2), 2) := by decide +kernel
theorem dX9_whatKind_24 : decode cX9_whatKind 24 = .ok (.goto 4, 3) := by decide +kernel
theorem dX9_whatKind_27 : decode cX9_whatKind 27 = .ok (.iconst 0, 1) := by decide +kernel
theorem dX9_whatKind_28 : decode cX9_whatKind 28 = .ok (.istore 4, 2) := by decide +kernel
theorem dX9_whatKind_30 : decode cX9_whatKind 30 = .ok (.iload 4, 2) := by decide +kernel
theorem dX9_whatKind_32 : decode cX9_whatKind 32 = .ok (.ifCond .eq 10, 3) := by decide +kernel
theorem dX9_whatKind_35 : decode cX9_whatKind 35 = .ok (.aload_n 0, 1) := by decide +kernel
theorem dX9_whatKind_36 : decode cX9_whatKind 36 = .ok (.iload 4, 2) := by decide +kernel
theorem dX9_whatKind_38 : decode cX9_whatKind 38 = .ok (.invokevirtual 79, 3) := by decide +kernel
theorem dX9_whatKind_41 : decode cX9_whatKind 41 = .ok (.ireturn, 1) := by decide +kernel
theorem dX9_whatKind_42 : decode cX9_whatKind 42 = .ok (.iload_n 3, 1) := by decide +kernel
theorem dX9_whatKind_43 : decode cX9_whatKind 43 = .ok (.ifCond .ne 18, 3) := by decide +kernel
theorem dX9_whatKind_46 : decode cX9_whatKind 46 = .ok (.aload_n 0, 1) := by decide +kernel
theorem dX9_whatKind_47 : decode cX9_whatKind 47 = .ok (.aload_n 0, 1) := by decide +kernel
theorem dX9_whatKind_48 : decode cX9_whatKind 48 = .ok (.getfield 13, 3) := by decide +kernel
theorem dX9_whatKind_51 : decode cX9_whatKind 51 = .ok (.iload_n 1, 1) := by decide +kernel
theorem dX9_whatKind_52 : decode cX9_whatKind 52 = .ok (.iload_n 2, 1) := by decide +kernel
theorem dX9_whatKind_53 : decode cX9_whatKind 53 = .ok (.bipush 6, 2) := by decide +kernel
theorem dX9_whatKind_55 : decode cX9_whatKind 55 = .ok (.invokevirtual 277, 3) := by decide +kernel
theorem dX9_whatKind_58 : decode cX9_whatKind 58 = .ok (.goto 15, 3) := by decide +kernel
theorem dX9_whatKind_61 : decode cX9_whatKind 61 = .ok (.aload_n 0, 1) := by decide +kernel
theorem dX9_whatKind_62 : decode cX9_whatKind 62 = .ok (.aload_n 0, 1) := by decide +kernel
theorem dX9_whatKind_63 : decode cX9_whatKind 63 = .ok (.getfield 16, 3) := by decide +kernel
theorem dX9_whatKind_66 : decode cX9_whatKind 66 = .ok (.iload_n 1, 1) := by decide +kernel
theorem dX9_whatKind_67 : decode cX9_whatKind 67 = .ok (.iload_n 2, 1) := by decide +kernel
theorem dX9_whatKind_68 : decode cX9_whatKind 68 = .ok (.bipush 10, 2) := by decide +kernel
theorem dX9_whatKind_70 : decode cX9_whatKind 70 = .ok (.invokevirtual 277, 3) := by decide +kernel
theorem dX9_whatKind_73 : decode cX9_whatKind 73 = .ok (.ireturn, 1) := by decide +kernel
theorem dX9_divisor_0 : decode cX9_divisor 0 = .ok (.lload_n 0, 1) := by decide +kernel
theorem dX9_divisor_1 : decode cX9_divisor 1 = .ok (.lstore 4, 2) := by decide +kernel
theorem dX9_divisor_3 : decode cX9_divisor 3 = .ok (.lload_n 2, 1) := by decide +kernel
theorem dX9_divisor_4 : decode cX9_divisor 4 = .ok (.lstore 6, 2) := by decide +kernel
theorem dX9_divisor_6 : decode cX9_divisor 6 = .ok (.lload 6, 2) := by decide +kernel
theorem dX9_divisor_8 : decode cX9_divisor 8 = .ok (.lconst 0, 1) := by decide +kernel
theorem dX9_divisor_9 : decode cX9_divisor 9 = .ok (.lcmp, 1) := by decide +kernel
theorem dX9_divisor_10 : decode cX9_divisor 10 = .ok (.ifCond .eq 21, 3) := by decide +kernel
theorem dX9_divisor_13 : decode cX9_divisor 13 = .ok (.lload 4, 2) := by decide +kernel
theorem dX9_divisor_15 : decode cX9_divisor 15 = .ok (.lload 6, 2) := by decide +kernel
theorem dX9_divisor_17 : decode cX9_divisor 17 = .ok (.lrem, 1) := by decide +kernel
theorem dX9_divisor_18 : decode cX9_divisor 18 = .ok (.lstore 8, 2) := by decide +kernel
theorem dX9_divisor_20 : decode cX9_divisor 20 = .ok (.lload 6, 2) := by decide +kernel
theorem dX9_divisor_22 : decode cX9_divisor 22 = .ok (.lstore 4, 2) := by decide +kernel
theorem dX9_divisor_24 : decode cX9_divisor 24 = .ok (.lload 8, 2) := by decide +kernel
theorem dX9_divisor_26 : decode cX9_divisor 26 = .ok (.lstore 6, 2) := by decide +kernel
theorem dX9_divisor_28 : decode cX9_divisor 28 = .ok (.goto (-22), 3) := by decide +kernel
theorem dX9_divisor_31 : decode cX9_divisor 31 = .ok (.lload 4, 2) := by decide +kernel
theorem dX9_divisor_33 : decode cX9_divisor 33 = .ok (.lreturn, 1) := by decide +kernel
theorem dX9_partOf_0 : decode cX9_partOf 0 = .ok (.iload 4, 2) := by decide +kernel
theorem dX9_partOf_2 : decode cX9_partOf 2 = .ok (.ifCond .ne 7, 3) := by decide +kernel
theorem dX9_partOf_5 : decode cX9_partOf 5 = .ok (.lload_n 0, 1) := by decide +kernel
theorem dX9_partOf_6 : decode cX9_partOf 6 = .ok (.goto 4, 3) := by decide +kernel
theorem dX9_partOf_9 : decode cX9_partOf 9 = .ok (.lload_n 2, 1) := by decide +kernel
theorem dX9_partOf_10 : decode cX9_partOf 10 = .ok (.lload_n 0, 1) := by decide +kernel
theorem dX9_partOf_11 : decode cX9_partOf 11 = .ok (.lload_n 2, 1) := by decide +kernel
theorem dX9_partOf_12 : decode cX9_partOf 12 = .ok (.invokestatic 281, 3) := by decide +kernel
theorem dX9_partOf_15 : decode cX9_partOf 15 = .ok (.ldiv, 1) := by decide +kernel
theorem dX9_partOf_16 : decode cX9_partOf 16 = .ok (.lreturn, 1) := by decide +kernel
theorem dX9_partsOf_0 : decode cX9_partsOf 0 = .ok (.lconst 1, 1) := by decide +kernel
theorem dX9_partsOf_1 : decode cX9_partsOf 1 = .ok (.lstore_n 3, 1) := by decide +kernel
theorem dX9_partsOf_2 : decode cX9_partsOf 2 = .ok (.iconst 0, 1) := by decide +kernel
theorem dX9_partsOf_3 : decode cX9_partsOf 3 = .ok (.istore 5, 2) := by decide +kernel
theorem dX9_partsOf_5 : decode cX9_partsOf 5 = .ok (.iload 5, 2) := by decide +kernel
theorem dX9_partsOf_7 : decode cX9_partsOf 7 = .ok (.iload_n 1, 1) := by decide +kernel
theorem dX9_partsOf_8 : decode cX9_partsOf 8 = .ok (.if_icmp .ge 29, 3) := by decide +kernel
theorem dX9_partsOf_11 : decode cX9_partsOf 11 = .ok (.lload_n 3, 1) := by decide +kernel
theorem dX9_partsOf_12 : decode cX9_partsOf 12 = .ok (.iload_n 0, 1) := by decide +kernel
theorem dX9_partsOf_13 : decode cX9_partsOf 13 = .ok (.iload 5, 2) := by decide +kernel
theorem dX9_partsOf_15 : decode cX9_partsOf 15 = .ok (.invokestatic 174, 3) := by decide +kernel
theorem dX9_partsOf_18 : decode cX9_partsOf 18 = .ok (.ifCond .eq 7, 3) := by decide +kernel
theorem dX9_partsOf_21 : decode cX9_partsOf 21 = .ok (.lconst 1, 1) := by decide +kernel
theorem dX9_partsOf_22 : decode cX9_partsOf 22 = .ok (.goto 7, 3) := by decide +kernel
theorem dX9_partsOf_25 : decode cX9_partsOf 25 = .ok (.iload_n 2, 1) := by decide +kernel
theorem dX9_partsOf_26 : decode cX9_partsOf 26 = .ok (.iconst 1, 1) := by decide +kernel
theorem dX9_partsOf_27 : decode cX9_partsOf 27 = .ok (.isub, 1) := by decide +kernel
theorem dX9_partsOf_28 : decode cX9_partsOf 28 = .ok (.i2l, 1) := by decide +kernel
theorem dX9_partsOf_29 : decode cX9_partsOf 29 = .ok (.lmul, 1) := by decide +kernel
theorem dX9_partsOf_30 : decode cX9_partsOf 30 = .ok (.lstore_n 3, 1) := by decide +kernel
theorem dX9_partsOf_31 : decode cX9_partsOf 31 = .ok (.iinc 5 1, 3) := by decide +kernel
theorem dX9_partsOf_34 : decode cX9_partsOf 34 = .ok (.goto (-29), 3) := by decide +kernel
theorem dX9_partsOf_37 : decode cX9_partsOf 37 = .ok (.lload_n 3, 1) := by decide +kernel
theorem dX9_partsOf_38 : decode cX9_partsOf 38 = .ok (.lreturn, 1) := by decide +kernel
theorem dX9_power_0 : decode cX9_power 0 = .ok (.lconst 1, 1) := by decide +kernel
theorem dX9_power_1 : decode cX9_power 1 = .ok (.lstore_n 2, 1) := by decide +kernel
theorem dX9_power_2 : decode cX9_power 2 = .ok (.iconst 0, 1) := by decide +kernel
theorem dX9_power_3 : decode cX9_power 3 = .ok (.istore 4, 2) := by decide +kernel
theorem dX9_power_5 : decode cX9_power 5 = .ok (.iload 4, 2) := by decide +kernel
theorem dX9_power_7 : decode cX9_power 7 = .ok (.iload_n 1, 1) := by decide +kernel
theorem dX9_power_8 : decode cX9_power 8 = .ok (.if_icmp .ge 14, 3) := by decide +kernel
theorem dX9_power_11 : decode cX9_power 11 = .ok (.lload_n 2, 1) := by decide +kernel
theorem dX9_power_12 : decode cX9_power 12 = .ok (.iload_n 0, 1) := by decide +kernel
theorem dX9_power_13 : decode cX9_power 13 = .ok (.i2l, 1) := by decide +kernel
theorem dX9_power_14 : decode cX9_power 14 = .ok (.lmul, 1) := by decide +kernel
theorem dX9_power_15 : decode cX9_power 15 = .ok (.lstore_n 2, 1) := by decide +kernel
theorem dX9_power_16 : decode cX9_power 16 = .ok (.iinc 4 1, 3) := by decide +kernel
theorem dX9_power_19 : decode cX9_power 19 = .ok (.goto (-14), 3) := by decide +kernel
theorem dX9_power_22 : decode cX9_power 22 = .ok (.lload_n 2, 1) := by decide +kernel
theorem dX9_power_23 : decode cX9_power 23 = .ok (.lreturn, 1) := by decide +kernel
theorem dX9_jug_0 : decode cX9_jug 0 = .ok (.iload_n 1, 1) := by decide +kernel
theorem dX9_jug_1 : decode cX9_jug 1 = .ok (.ifCond .lt 12, 3) := by decide +kernel
theorem dX9_jug_4 : decode cX9_jug 4 = .ok (.iload_n 2, 1) := by decide +kernel
theorem dX9_jug_5 : decode cX9_jug 5 = .ok (.ifCond .lt 8, 3) := by decide +kernel
theorem dX9_jug_8 : decode cX9_jug 8 = .ok (.iload_n 3, 1) := by decide +kernel
theorem dX9_jug_9 : decode cX9_jug 9 = .ok (.iconst 2, 1) := by decide +kernel
theorem dX9_jug_10 : decode cX9_jug 10 = .ok (.if_icmp .ge 8, 3) := by decide +kernel
theorem dX9_jug_13 : decode cX9_jug 13 = .ok (.bipush (-4), 2) := by decide +kernel
theorem dX9_jug_15 : decode cX9_jug 15 = .ok (.goto 42, 3) := by decide +kernel
theorem dX9_jug_18 : decode cX9_jug 18 = .ok (.iload_n 1, 1) := by decide +kernel
theorem dX9_jug_19 : decode cX9_jug 19 = .ok (.bipush 8, 2) := by decide +kernel
theorem dX9_jug_21 : decode cX9_jug 21 = .ok (.if_icmp .gt 15, 3) := by decide +kernel
theorem dX9_jug_24 : decode cX9_jug 24 = .ok (.iload_n 2, 1) := by decide +kernel
theorem dX9_jug_25 : decode cX9_jug 25 = .ok (.bipush 8, 2) := by decide +kernel
theorem dX9_jug_27 : decode cX9_jug 27 = .ok (.if_icmp .gt 9, 3) := by decide +kernel
theorem dX9_jug_30 : decode cX9_jug 30 = .ok (.iload_n 3, 1) := by decide +kernel
theorem dX9_jug_31 : decode cX9_jug 31 = .ok (.bipush 20, 2) := by decide +kernel
theorem dX9_jug_33 : decode cX9_jug 33 = .ok (.if_icmp .le 8, 3) := by decide +kernel
theorem dX9_jug_36 : decode cX9_jug 36 = .ok (.bipush (-6), 2) := by decide +kernel
theorem dX9_jug_38 : decode cX9_jug 38 = .ok (.goto 19, 3) := by decide +kernel
theorem dX9_jug_41 : decode cX9_jug 41 = .ok (.iload 4, 2) := by decide +kernel
theorem dX9_jug_43 : decode cX9_jug 43 = .ok (.iconst 0, 1) := by decide +kernel
theorem dX9_jug_44 : decode cX9_jug 44 = .ok (.iconst 1, 1) := by decide +kernel
theorem dX9_jug_45 : decode cX9_jug 45 = .ok (.invokestatic 90, 3) := by decide +kernel
theorem dX9_jug_48 : decode cX9_jug 48 = .ok (.ifCond .ne 8, 3) := by decide +kernel
theorem dX9_jug_51 : decode cX9_jug 51 = .ok (.bipush (-2), 2) := by decide +kernel
theorem dX9_jug_53 : decode cX9_jug 53 = .ok (.goto 4, 3) := by decide +kernel
theorem dX9_jug_56 : decode cX9_jug 56 = .ok (.iconst 0, 1) := by decide +kernel
theorem dX9_jug_57 : decode cX9_jug 57 = .ok (.istore 5, 2) := by decide +kernel
theorem dX9_jug_59 : decode cX9_jug 59 = .ok (.iload 5, 2) := by decide +kernel
theorem dX9_jug_61 : decode cX9_jug 61 = .ok (.ifCond .eq 10, 3) := by decide +kernel
theorem dX9_jug_64 : decode cX9_jug 64 = .ok (.aload_n 0, 1) := by decide +kernel
theorem dX9_jug_65 : decode cX9_jug 65 = .ok (.iload 5, 2) := by decide +kernel
theorem dX9_jug_67 : decode cX9_jug 67 = .ok (.invokevirtual 285, 3) := by decide +kernel
theorem dX9_jug_70 : decode cX9_jug 70 = .ok (.lreturn, 1) := by decide +kernel
theorem dX9_jug_71 : decode cX9_jug 71 = .ok (.lconst 0, 1) := by decide +kernel
theorem dX9_jug_72 : decode cX9_jug 72 = .ok (.lstore 6, 2) := by decide +kernel
theorem dX9_jug_74 : decode cX9_jug 74 = .ok (.iconst 0, 1) := by decide +kernel
theorem dX9_jug_75 : decode cX9_jug 75 = .ok (.istore 8, 2) := by decide +kernel
theorem dX9_jug_77 : decode cX9_jug 77 = .ok (.iload 8, 2) := by decide +kernel
theorem dX9_jug_79 : decode cX9_jug 79 = .ok (.iconst 1, 1) := by decide +kernel
theorem dX9_jug_80 : decode cX9_jug 80 = .ok (.iload_n 1, 1) := by decide +kernel
theorem dX9_jug_81 : decode cX9_jug 81 = .ok (.ishl, 1) := by decide +kernel
theorem dX9_jug_82 : decode cX9_jug 82 = .ok (.if_icmp .ge 34, 3) := by decide +kernel
theorem dX9_jug_85 : decode cX9_jug 85 = .ok (.lload 6, 2) := by decide +kernel
theorem dX9_jug_87 : decode cX9_jug 87 = .ok (.iload 8, 2) := by decide +kernel
theorem dX9_jug_89 : decode cX9_jug 89 = .ok (.invokestatic 214, 3) := by decide +kernel
theorem dX9_jug_92 : decode cX9_jug 92 = .ok (.iload_n 2, 1) := by decide +kernel
theorem dX9_jug_93 : decode cX9_jug 93 = .ok (.if_icmp .lt 13, 3) := by decide +kernel
theorem dX9_jug_96 : decode cX9_jug 96 = .ok (.iload 8, 2) := by decide +kernel
theorem dX9_jug_98 : decode cX9_jug 98 = .ok (.iload_n 1, 1) := by decide +kernel
theorem dX9_jug_99 : decode cX9_jug 99 = .ok (.iload_n 3, 1) := by decide +kernel
theorem dX9_jug_100 : decode cX9_jug 100 = .ok (.invokestatic 289, 3) := by decide +kernel
theorem dX9_jug_103 : decode cX9_jug 103 = .ok (.goto 4, 3) := by decide +kernel
theorem dX9_jug_106 : decode cX9_jug 106 = .ok (.lconst 0, 1) := by decide +kernel
theorem dX9_jug_107 : decode cX9_jug 107 = .ok (.ladd, 1) := by decide +kernel
theorem dX9_jug_108 : decode cX9_jug 108 = .ok (.lstore 6, 2) := by decide +kernel
theorem dX9_jug_110 : decode cX9_jug 110 = .ok (.iinc 8 1, 3) := by decide +kernel
theorem dX9_jug_113 : decode cX9_jug 113 = .ok (.goto (-36), 3) := by decide +kernel
theorem dX9_jug_116 : decode cX9_jug 116 = .ok (.lload 6, 2) := by decide +kernel
theorem dX9_jug_118 : decode cX9_jug 118 = .ok (.iload_n 3, 1) := by decide +kernel
theorem dX9_jug_119 : decode cX9_jug 119 = .ok (.iload_n 1, 1) := by decide +kernel
theorem dX9_jug_120 : decode cX9_jug 120 = .ok (.invokestatic 293, 3) := by decide +kernel
theorem dX9_jug_123 : decode cX9_jug 123 = .ok (.iload 4, 2) := by decide +kernel
theorem dX9_jug_125 : decode cX9_jug 125 = .ok (.invokestatic 297, 3) := by decide +kernel
theorem dX9_jug_128 : decode cX9_jug 128 = .ok (.lreturn, 1) := by decide +kernel
theorem dX9_getsOf_0 : decode cX9_getsOf 0 = .ok (.aload_n 0, 1) := by decide +kernel
theorem dX9_getsOf_1 : decode cX9_getsOf 1 = .ok (.iload_n 1, 1) := by decide +kernel
theorem dX9_getsOf_2 : decode cX9_getsOf 2 = .ok (.iload_n 2, 1) := by decide +kernel
theorem dX9_getsOf_3 : decode cX9_getsOf 3 = .ok (.invokevirtual 180, 3) := by decide +kernel
theorem dX9_getsOf_6 : decode cX9_getsOf 6 = .ok (.istore 5, 2) := by decide +kernel
theorem dX9_getsOf_8 : decode cX9_getsOf 8 = .ok (.aload_n 0, 1) := by decide +kernel
theorem dX9_getsOf_9 : decode cX9_getsOf 9 = .ok (.iload_n 1, 1) := by decide +kernel
theorem dX9_getsOf_10 : decode cX9_getsOf 10 = .ok (.iload_n 2, 1) := by decide +kernel
theorem dX9_getsOf_11 : decode cX9_getsOf 11 = .ok (.iload_n 3, 1) := by decide +kernel
theorem dX9_getsOf_12 : decode cX9_getsOf 12 = .ok (.iconst 1, 1) := by decide +kernel
theorem dX9_getsOf_13 : decode cX9_getsOf 13 = .ok (.if_icmp .ne 16, 3) := by decide +kernel
theorem dX9_getsOf_16 : decode cX9_getsOf 16 = .ok (.iload 4, 2) := by decide +kernel
theorem dX9_getsOf_18 : decode cX9_getsOf 18 = .ok (.iconst 1, 1) := by decide +kernel
theorem dX9_getsOf_19 : decode cX9_getsOf 19 = .ok (.if_icmp .ne 10, 3) := by decide +kernel
theorem dX9_getsOf_22 : decode cX9_getsOf 22 = .ok (.iload 5, 2) := by decide +kernel
theorem dX9_getsOf_24 : decode cX9_getsOf 24 = .ok (.iconst 2, 1) := by decide +kernel
theorem dX9_getsOf_25 : decode cX9_getsOf 25 = .ok (.idiv, 1) := by decide +kernel
theorem dX9_getsOf_26 : decode cX9_getsOf 26 = .ok (.goto 5, 3) := by decide +kernel
theorem dX9_getsOf_29 : decode cX9_getsOf 29 = .ok (.iload 5, 2) := by decide +kernel
theorem dX9_getsOf_31 : decode cX9_getsOf 31 = .ok (.invokevirtual 128, 3) := by decide +kernel
theorem dX9_getsOf_34 : decode cX9_getsOf 34 = .ok (.iconst 4, 1) := by decide +kernel
theorem dX9_getsOf_35 : decode cX9_getsOf 35 = .ok (.aload_n 0, 1) := by decide +kernel
theorem dX9_getsOf_36 : decode cX9_getsOf 36 = .ok (.iload_n 1, 1) := by decide +kernel
theorem dX9_getsOf_37 : decode cX9_getsOf 37 = .ok (.invokevirtual 205, 3) := by decide +kernel
theorem dX9_getsOf_40 : decode cX9_getsOf 40 = .ok (.imul, 1) := by decide +kernel
theorem dX9_getsOf_41 : decode cX9_getsOf 41 = .ok (.aload_n 0, 1) := by decide +kernel
theorem dX9_getsOf_42 : decode cX9_getsOf 42 = .ok (.iload_n 1, 1) := by decide +kernel
theorem dX9_getsOf_43 : decode cX9_getsOf 43 = .ok (.iload_n 2, 1) := by decide +kernel
theorem dX9_getsOf_44 : decode cX9_getsOf 44 = .ok (.iconst 4, 1) := by decide +kernel
theorem dX9_getsOf_45 : decode cX9_getsOf 45 = .ok (.invokevirtual 226, 3) := by decide +kernel
theorem dX9_getsOf_48 : decode cX9_getsOf 48 = .ok (.iconst 2, 1) := by decide +kernel
theorem dX9_getsOf_49 : decode cX9_getsOf 49 = .ok (.idiv, 1) := by decide +kernel
theorem dX9_getsOf_50 : decode cX9_getsOf 50 = .ok (.isub, 1) := by decide +kernel
theorem dX9_getsOf_51 : decode cX9_getsOf 51 = .ok (.iload_n 3, 1) := by decide +kernel
theorem dX9_getsOf_52 : decode cX9_getsOf 52 = .ok (.iconst 1, 1) := by decide +kernel
theorem dX9_getsOf_53 : decode cX9_getsOf 53 = .ok (.if_icmp .ne 12, 3) := by decide +kernel
theorem dX9_getsOf_56 : decode cX9_getsOf 56 = .ok (.iload 4, 2) := by decide +kernel
theorem dX9_getsOf_58 : decode cX9_getsOf 58 = .ok (.ifCond .ne 7, 3) := by decide +kernel
theorem dX9_getsOf_61 : decode cX9_getsOf 61 = .ok (.iconst 3, 1) := by decide +kernel
theorem dX9_getsOf_62 : decode cX9_getsOf 62 = .ok (.goto 4, 3) := by decide +kernel
theorem dX9_getsOf_65 : decode cX9_getsOf 65 = .ok (.iconst 0, 1) := by decide +kernel
theorem dX9_getsOf_66 : decode cX9_getsOf 66 = .ok (.isub, 1) := by decide +kernel
theorem dX9_getsOf_67 : decode cX9_getsOf 67 = .ok (.istore 6, 2) := by decide +kernel
theorem dX9_getsOf_69 : decode cX9_getsOf 69 = .ok (.aload_n 0, 1) := by decide +kernel
theorem dX9_getsOf_70 : decode cX9_getsOf 70 = .ok (.iload_n 1, 1) := by decide +kernel
theorem dX9_getsOf_71 : decode cX9_getsOf 71 = .ok (.iload_n 2, 1) := by decide +kernel
theorem dX9_getsOf_72 : decode cX9_getsOf 72 = .ok (.iload 5, 2) := by decide +kernel
theorem dX9_getsOf_74 : decode cX9_getsOf 74 = .ok (.invokevirtual 128, 3) := by decide +kernel
theorem dX9_getsOf_77 : decode cX9_getsOf 77 = .ok (.iload 6, 2) := by decide +kernel
theorem dX9_getsOf_79 : decode cX9_getsOf 79 = .ok (.ireturn, 1) := by decide +kernel
theorem dX9_two_0 : decode cX9_two 0 = .ok (.aload_n 0, 1) := by decide +kernel
theorem dX9_two_1 : decode cX9_two 1 = .ok (.iload_n 1, 1) := by decide +kernel
theorem dX9_two_2 : decode cX9_two 2 = .ok (.iload_n 2, 1) := by decide +kernel
theorem dX9_two_3 : decode cX9_two 3 = .ok (.invokevirtual 125, 3) := by decide +kernel
theorem dX9_two_6 : decode cX9_two 6 = .ok (.ifCond .ne 9, 3) := by decide +kernel
theorem dX9_two_9 : decode cX9_two 9 = .ok (.aload_n 0, 1) := by decide +kernel
theorem dX9_two_10 : decode cX9_two 10 = .ok (.iconst (-1), 1) := by decide +kernel
theorem dX9_two_11 : decode cX9_two 11 = .ok (.invokevirtual 79, 3) := by decide +kernel
theorem dX9_two_14 : decode cX9_two 14 = .ok (.ireturn, 1) := by decide +kernel
theorem dX9_two_15 : decode cX9_two 15 = .ok (.iconst 0, 1) := by decide +kernel
theorem dX9_two_16 : decode cX9_two 16 = .ok (.istore_n 3, 1) := by decide +kernel
theorem dX9_two_17 : decode cX9_two 17 = .ok (.iload_n 3, 1) := by decide +kernel
theorem dX9_two_18 : decode cX9_two 18 = .ok (.iconst 4, 1) := by decide +kernel
theorem dX9_two_19 : decode cX9_two 19 = .ok (.if_icmp .ge 78, 3) := by decide +kernel
theorem dX9_two_22 : decode cX9_two 22 = .ok (.iload_n 3, 1) := by decide +kernel
theorem dX9_two_23 : decode cX9_two 23 = .ok (.iconst 2, 1) := by decide +kernel
theorem dX9_two_24 : decode cX9_two 24 = .ok (.idiv, 1) := by decide +kernel
theorem dX9_two_25 : decode cX9_two 25 = .ok (.istore 4, 2) := by decide +kernel
theorem dX9_two_27 : decode cX9_two 27 = .ok (.iload_n 3, 1) := by decide +kernel
theorem dX9_two_28 : decode cX9_two 28 = .ok (.iconst 2, 1) := by decide +kernel
theorem dX9_two_29 : decode cX9_two 29 = .ok (.irem, 1) := by decide +kernel
theorem dX9_two_30 : decode cX9_two 30 = .ok (.istore 5, 2) := by decide +kernel
theorem dX9_two_32 : decode cX9_two 32 = .ok (.aload_n 0, 1) := by decide +kernel
theorem dX9_two_33 : decode cX9_two 33 = .ok (.iload_n 1, 1) := by decide +kernel
theorem dX9_two_34 : decode cX9_two 34 = .ok (.iload_n 2, 1) := by decide +kernel
theorem dX9_two_35 : decode cX9_two 35 = .ok (.iconst 1, 1) := by decide +kernel
theorem dX9_two_36 : decode cX9_two 36 = .ok (.iload 4, 2) := by decide +kernel
theorem dX9_two_38 : decode cX9_two 38 = .ok (.isub, 1) := by decide +kernel
theorem dX9_two_39 : decode cX9_two 39 = .ok (.iload 5, 2) := by decide +kernel
theorem dX9_two_41 : decode cX9_two 41 = .ok (.invokevirtual 301, 3) := by decide +kernel
theorem dX9_two_44 : decode cX9_two 44 = .ok (.aload_n 0, 1) := by decide +kernel
theorem dX9_two_45 : decode cX9_two 45 = .ok (.iload_n 1, 1) := by decide +kernel
theorem dX9_two_46 : decode cX9_two 46 = .ok (.iload_n 2, 1) := by decide +kernel
theorem dX9_two_47 : decode cX9_two 47 = .ok (.iload 4, 2) := by decide +kernel
theorem dX9_two_49 : decode cX9_two 49 = .ok (.iload 5, 2) := by decide +kernel
theorem dX9_two_51 : decode cX9_two 51 = .ok (.invokevirtual 301, 3) := by decide +kernel
theorem dX9_two_54 : decode cX9_two 54 = .ok (.if_icmp .gt 37, 3) := by decide +kernel
theorem dX9_two_57 : decode cX9_two 57 = .ok (.aload_n 0, 1) := by decide +kernel
theorem dX9_two_58 : decode cX9_two 58 = .ok (.iload_n 2, 1) := by decide +kernel
theorem dX9_two_59 : decode cX9_two 59 = .ok (.iload_n 1, 1) := by decide +kernel
theorem dX9_two_60 : decode cX9_two 60 = .ok (.iconst 1, 1) := by decide +kernel
theorem dX9_two_61 : decode cX9_two 61 = .ok (.iload 5, 2) := by decide +kernel
theorem dX9_two_63 : decode cX9_two 63 = .ok (.isub, 1) := by decide +kernel
theorem dX9_two_64 : decode cX9_two 64 = .ok (.iload 4, 2) := by decide +kernel
theorem dX9_two_66 : decode cX9_two 66 = .ok (.invokevirtual 301, 3) := by decide +kernel
theorem dX9_two_69 : decode cX9_two 69 = .ok (.aload_n 0, 1) := by decide +kernel
theorem dX9_two_70 : decode cX9_two 70 = .ok (.iload_n 2, 1) := by decide +kernel
theorem dX9_two_71 : decode cX9_two 71 = .ok (.iload_n 1, 1) := by decide +kernel
theorem dX9_two_72 : decode cX9_two 72 = .ok (.iload 5, 2) := by decide +kernel
theorem dX9_two_74 : decode cX9_two 74 = .ok (.iload 4, 2) := by decide +kernel
theorem dX9_two_76 : decode cX9_two 76 = .ok (.invokevirtual 301, 3) := by decide +kernel
theorem dX9_two_79 : decode cX9_two 79 = .ok (.if_icmp .gt 12, 3) := by decide +kernel
theorem dX9_two_82 : decode cX9_two 82 = .ok (.bipush 10, 2) := by decide +kernel
theorem dX9_two_84 : decode cX9_two 84 = .ok (.iload 4, 2) := by decide +kernel
theorem dX9_two_86 : decode cX9_two 86 = .ok (.imul, 1) := by decide +kernel
theorem dX9_two_87 : decode cX9_two 87 = .ok (.iload 5, 2) := by decide +kernel
theorem dX9_two_89 : decode cX9_two 89 = .ok (.iadd, 1) := by decide +kernel
theorem dX9_two_90 : decode cX9_two 90 = .ok (.ireturn, 1) := by decide +kernel
theorem dX9_two_91 : decode cX9_two 91 = .ok (.iinc 3 1, 3) := by decide +kernel
theorem dX9_two_94 : decode cX9_two 94 = .ok (.goto (-77), 3) := by decide +kernel
theorem dX9_two_97 : decode cX9_two 97 = .ok (.bipush (-9), 2) := by decide +kernel
theorem dX9_two_99 : decode cX9_two 99 = .ok (.ireturn, 1) := by decide +kernel
theorem dX9_isOpenMeeting_0 : decode cX9_isOpenMeeting 0 = .ok (.aload_n 0, 1) := by decide +kernel
theorem dX9_isOpenMeeting_1 : decode cX9_isOpenMeeting 1 = .ok (.invokevirtual 217, 3) := by decide +kernel
theorem dX9_isOpenMeeting_4 : decode cX9_isOpenMeeting 4 = .ok (.iconst 0, 1) := by decide +kernel
theorem dX9_isOpenMeeting_5 : decode cX9_isOpenMeeting 5 = .ok (.istore 6, 2) := by decide +kernel
theorem dX9_isOpenMeeting_7 : decode cX9_isOpenMeeting 7 = .ok (.iload 6, 2) := by decide +kernel
theorem dX9_isOpenMeeting_9 : decode cX9_isOpenMeeting 9 = .ok (.iload 4, 2) := by decide +kernel
theorem dX9_isOpenMeeting_11 : decode cX9_isOpenMeeting 11 = .ok (.if_icmp .ge 44, 3) := by decide +kernel
theorem dX9_isOpenMeeting_14 : decode cX9_isOpenMeeting 14 = .ok (.iload 5, 2) := by decide +kernel
theorem dX9_isOpenMeeting_16 : decode cX9_isOpenMeeting 16 = .ok (.iload 6, 2) := by decide +kernel
theorem dX9_isOpenMeeting_18 : decode cX9_isOpenMeeting 18 = .ok (.invokestatic 174, 3) := by decide +kernel
theorem dX9_isOpenMeeting_21 : decode cX9_isOpenMeeting 21 = .ok (.ifCond .eq 24, 3) := by decide +kernel
theorem dX9_isOpenMeeting_24 : decode cX9_isOpenMeeting 24 = .ok (.aload_n 0, 1) := by decide +kernel
theorem dX9_isOpenMeeting_25 : decode cX9_isOpenMeeting 25 = .ok (.iload_n 1, 1) := by decide +kernel
theorem dX9_isOpenMeeting_26 : decode cX9_isOpenMeeting 26 = .ok (.iload_n 2, 1) := by decide +kernel
theorem dX9_isOpenMeeting_27 : decode cX9_isOpenMeeting 27 = .ok (.aload_n 0, 1) := by decide +kernel
theorem dX9_isOpenMeeting_28 : decode cX9_isOpenMeeting 28 = .ok (.iload_n 1, 1) := by decide +kernel
theorem dX9_isOpenMeeting_29 : decode cX9_isOpenMeeting 29 = .ok (.iload_n 2, 1) := by decide +kernel
theorem dX9_isOpenMeeting_30 : decode cX9_isOpenMeeting 30 = .ok (.invokevirtual 180, 3) := by decide +kernel
theorem dX9_isOpenMeeting_33 : decode cX9_isOpenMeeting 33 = .ok (.bipush 10, 2) := by decide +kernel
theorem dX9_isOpenMeeting_35 : decode cX9_isOpenMeeting 35 = .ok (.isub, 1) := by decide +kernel
theorem dX9_isOpenMeeting_36 : decode cX9_isOpenMeeting 36 = .ok (.iconst 0, 1) := by decide +kernel
theorem dX9_isOpenMeeting_37 : decode cX9_isOpenMeeting 37 = .ok (.bipush 99, 2) := by decide +kernel
theorem dX9_isOpenMeeting_39 : decode cX9_isOpenMeeting 39 = .ok (.invokestatic 187, 3) := by decide +kernel
theorem dX9_isOpenMeeting_42 : decode cX9_isOpenMeeting 42 = .ok (.invokevirtual 128, 3) := by decide +kernel
theorem dX9_isOpenMeeting_45 : decode cX9_isOpenMeeting 45 = .ok (.aload_n 0, 1) := by decide +kernel
theorem dX9_isOpenMeeting_46 : decode cX9_isOpenMeeting 46 = .ok (.invokevirtual 202, 3) := by decide +kernel
theorem dX9_isOpenMeeting_49 : decode cX9_isOpenMeeting 49 = .ok (.iinc 6 1, 3) := by decide +kernel
theorem dX9_isOpenMeeting_52 : decode cX9_isOpenMeeting 52 = .ok (.goto (-45), 3) := by decide +kernel
theorem dX9_isOpenMeeting_55 : decode cX9_isOpenMeeting 55 = .ok (.aload_n 0, 1) := by decide +kernel
theorem dX9_isOpenMeeting_56 : decode cX9_isOpenMeeting 56 = .ok (.getfield 31, 3) := by decide +kernel
theorem dX9_isOpenMeeting_59 : decode cX9_isOpenMeeting 59 = .ok (.iload_n 3, 1) := by decide +kernel
theorem dX9_isOpenMeeting_60 : decode cX9_isOpenMeeting 60 = .ok (.iaload, 1) := by decide +kernel
theorem dX9_isOpenMeeting_61 : decode cX9_isOpenMeeting 61 = .ok (.iconst 1, 1) := by decide +kernel
theorem dX9_isOpenMeeting_62 : decode cX9_isOpenMeeting 62 = .ok (.if_icmp .ne 7, 3) := by decide +kernel
theorem dX9_isOpenMeeting_65 : decode cX9_isOpenMeeting 65 = .ok (.iconst 1, 1) := by decide +kernel
theorem dX9_isOpenMeeting_66 : decode cX9_isOpenMeeting 66 = .ok (.goto 4, 3) := by decide +kernel
theorem dX9_isOpenMeeting_69 : decode cX9_isOpenMeeting 69 = .ok (.iconst 0, 1) := by decide +kernel
theorem dX9_isOpenMeeting_70 : decode cX9_isOpenMeeting 70 = .ok (.istore 6, 2) := by decide +kernel
theorem dX9_isOpenMeeting_72 : decode cX9_isOpenMeeting 72 = .ok (.aload_n 0, 1) := by decide +kernel
theorem dX9_isOpenMeeting_73 : decode cX9_isOpenMeeting 73 = .ok (.invokevirtual 220, 3) := by decide +kernel
theorem dX9_isOpenMeeting_76 : decode cX9_isOpenMeeting 76 = .ok (.iload 6, 2) := by decide +kernel
theorem dX9_isOpenMeeting_78 : decode cX9_isOpenMeeting 78 = .ok (.ireturn, 1) := by decide +kernel
theorem dX9_meetings_0 : decode cX9_meetings 0 = .ok (.aload_n 0, 1) := by decide +kernel
theorem dX9_meetings_1 : decode cX9_meetings 1 = .ok (.iload_n 1, 1) := by decide +kernel
theorem dX9_meetings_2 : decode cX9_meetings 2 = .ok (.iload_n 2, 1) := by decide +kernel
theorem dX9_meetings_3 : decode cX9_meetings 3 = .ok (.invokevirtual 125, 3) := by decide +kernel
theorem dX9_meetings_6 : decode cX9_meetings 6 = .ok (.ifCond .eq 11, 3) := by decide +kernel
theorem dX9_meetings_9 : decode cX9_meetings 9 = .ok (.aload_n 0, 1) := by decide +kernel
theorem dX9_meetings_10 : decode cX9_meetings 10 = .ok (.iload_n 3, 1) := by decide +kernel
theorem dX9_meetings_11 : decode cX9_meetings 11 = .ok (.invokevirtual 134, 3) := by decide +kernel
theorem dX9_meetings_14 : decode cX9_meetings 14 = .ok (.ifCond .ne 7, 3) := by decide +kernel
theorem dX9_meetings_17 : decode cX9_meetings 17 = .ok (.iconst (-1), 1) := by decide +kernel
theorem dX9_meetings_18 : decode cX9_meetings 18 = .ok (.goto 54, 3) := by decide +kernel
theorem dX9_meetings_21 : decode cX9_meetings 21 = .ok (.iload 4, 2) := by decide +kernel
theorem dX9_meetings_23 : decode cX9_meetings 23 = .ok (.ifCond .lt 9, 3) := by decide +kernel
theorem dX9_meetings_26 : decode cX9_meetings 26 = .ok (.iload 5, 2) := by decide +kernel
theorem dX9_meetings_28 : decode cX9_meetings 28 = .ok (.iconst 2, 1) := by decide +kernel
theorem dX9_meetings_29 : decode cX9_meetings 29 = .ok (.if_icmp .ge 8, 3) := by decide +kernel
theorem dX9_meetings_32 : decode cX9_meetings 32 = .ok (.bipush (-4), 2) := by decide +kernel
theorem dX9_meetings_34 : decode cX9_meetings 34 = .ok (.goto 38, 3) := by decide +kernel
theorem dX9_meetings_37 : decode cX9_meetings 37 = .ok (.iload 4, 2) := by decide +kernel
theorem dX9_meetings_39 : decode cX9_meetings 39 = .ok (.bipush 7, 2) := by decide +kernel
theorem dX9_meetings_41 : decode cX9_meetings 41 = .ok (.if_icmp .gt 10, 3) := by decide +kernel
theorem dX9_meetings_44 : decode cX9_meetings 44 = .ok (.iload 5, 2) := by decide +kernel
theorem dX9_meetings_46 : decode cX9_meetings 46 = .ok (.bipush 20, 2) := by decide +kernel
theorem dX9_meetings_48 : decode cX9_meetings 48 = .ok (.if_icmp .le 8, 3) := by decide +kernel
theorem dX9_meetings_51 : decode cX9_meetings 51 = .ok (.bipush (-6), 2) := by decide +kernel
theorem dX9_meetings_53 : decode cX9_meetings 53 = .ok (.goto 19, 3) := by decide +kernel
theorem dX9_meetings_56 : decode cX9_meetings 56 = .ok (.iload 6, 2) := by decide +kernel
theorem dX9_meetings_58 : decode cX9_meetings 58 = .ok (.iconst 0, 1) := by decide +kernel
theorem dX9_meetings_59 : decode cX9_meetings 59 = .ok (.iconst 1, 1) := by decide +kernel
theorem dX9_meetings_60 : decode cX9_meetings 60 = .ok (.invokestatic 90, 3) := by decide +kernel
theorem dX9_meetings_63 : decode cX9_meetings 63 = .ok (.ifCond .ne 8, 3) := by decide +kernel
theorem dX9_meetings_66 : decode cX9_meetings 66 = .ok (.bipush (-2), 2) := by decide +kernel
theorem dX9_meetings_68 : decode cX9_meetings 68 = .ok (.goto 4, 3) := by decide +kernel
theorem dX9_meetings_71 : decode cX9_meetings 71 = .ok (.iconst 0, 1) := by decide +kernel
theorem dX9_meetings_72 : decode cX9_meetings 72 = .ok (.istore 7, 2) := by decide +kernel
theorem dX9_meetings_74 : decode cX9_meetings 74 = .ok (.iload 7, 2) := by decide +kernel
theorem dX9_meetings_76 : decode cX9_meetings 76 = .ok (.ifCond .eq 10, 3) := by decide +kernel
theorem dX9_meetings_79 : decode cX9_meetings 79 = .ok (.aload_n 0, 1) := by decide +kernel
theorem dX9_meetings_80 : decode cX9_meetings 80 = .ok (.iload 7, 2) := by decide +kernel
theorem dX9_meetings_82 : decode cX9_meetings 82 = .ok (.invokevirtual 285, 3) := by decide +kernel
theorem dX9_meetings_85 : decode cX9_meetings 85 = .ok (.lreturn, 1) := by decide +kernel
theorem dX9_meetings_86 : decode cX9_meetings 86 = .ok (.lconst 0, 1) := by decide +kernel
theorem dX9_meetings_87 : decode cX9_meetings 87 = .ok (.lstore 8, 2) := by decide +kernel
theorem dX9_meetings_89 : decode cX9_meetings 89 = .ok (.iconst 0, 1) := by decide +kernel
theorem dX9_meetings_90 : decode cX9_meetings 90 = .ok (.istore 10, 2) := by decide +kernel
theorem dX9_meetings_92 : decode cX9_meetings 92 = .ok (.iload 10, 2) := by decide +kernel
theorem dX9_meetings_94 : decode cX9_meetings 94 = .ok (.iconst 1, 1) := by decide +kernel
theorem dX9_meetings_95 : decode cX9_meetings 95 = .ok (.iload 4, 2) := by decide +kernel
theorem dX9_meetings_97 : decode cX9_meetings 97 = .ok (.ishl, 1) := by decide +kernel
theorem dX9_meetings_98 : decode cX9_meetings 98 = .ok (.if_icmp .ge 41, 3) := by decide +kernel
theorem dX9_meetings_101 : decode cX9_meetings 101 = .ok (.lload 8, 2) := by decide +kernel
theorem dX9_meetings_103 : decode cX9_meetings 103 = .ok (.aload_n 0, 1) := by decide +kernel
theorem dX9_meetings_104 : decode cX9_meetings 104 = .ok (.iload_n 1, 1) := by decide +kernel
theorem dX9_meetings_105 : decode cX9_meetings 105 = .ok (.iload_n 2, 1) := by decide +kernel
theorem dX9_meetings_106 : decode cX9_meetings 106 = .ok (.iload_n 3, 1) := by decide +kernel
theorem dX9_meetings_107 : decode cX9_meetings 107 = .ok (.iload 4, 2) := by decide +kernel
theorem dX9_meetings_109 : decode cX9_meetings 109 = .ok (.iload 10, 2) := by decide +kernel
theorem dX9_meetings_111 : decode cX9_meetings 111 = .ok (.invokevirtual 305, 3) := by decide +kernel
theorem dX9_meetings_114 : decode cX9_meetings 114 = .ok (.ifCond .eq 15, 3) := by decide +kernel
theorem dX9_meetings_117 : decode cX9_meetings 117 = .ok (.iload 10, 2) := by decide +kernel
theorem dX9_meetings_119 : decode cX9_meetings 119 = .ok (.iload 4, 2) := by decide +kernel
theorem dX9_meetings_121 : decode cX9_meetings 121 = .ok (.iload 5, 2) := by decide +kernel
theorem dX9_meetings_123 : decode cX9_meetings 123 = .ok (.invokestatic 289, 3) := by decide +kernel
theorem dX9_meetings_126 : decode cX9_meetings 126 = .ok (.goto 4, 3) := by decide +kernel
theorem dX9_meetings_129 : decode cX9_meetings 129 = .ok (.lconst 0, 1) := by decide +kernel
theorem dX9_meetings_130 : decode cX9_meetings 130 = .ok (.ladd, 1) := by decide +kernel
theorem dX9_meetings_131 : decode cX9_meetings 131 = .ok (.lstore 8, 2) := by decide +kernel
theorem dX9_meetings_133 : decode cX9_meetings 133 = .ok (.iinc 10 1, 3) := by decide +kernel
theorem dX9_meetings_136 : decode cX9_meetings 136 = .ok (.goto (-44), 3) := by decide +kernel
theorem dX9_meetings_139 : decode cX9_meetings 139 = .ok (.lload 8, 2) := by decide +kernel
theorem dX9_meetings_141 : decode cX9_meetings 141 = .ok (.iload 5, 2) := by decide +kernel
theorem dX9_meetings_143 : decode cX9_meetings 143 = .ok (.iload 4, 2) := by decide +kernel
theorem dX9_meetings_145 : decode cX9_meetings 145 = .ok (.invokestatic 293, 3) := by decide +kernel
theorem dX9_meetings_148 : decode cX9_meetings 148 = .ok (.iload 6, 2) := by decide +kernel
theorem dX9_meetings_150 : decode cX9_meetings 150 = .ok (.invokestatic 297, 3) := by decide +kernel
theorem dX9_meetings_153 : decode cX9_meetings 153 = .ok (.lreturn, 1) := by decide +kernel
theorem dX9_fullest_0 : decode cX9_fullest 0 = .ok (.iload_n 1, 1) := by decide +kernel
theorem dX9_fullest_1 : decode cX9_fullest 1 = .ok (.iconst 0, 1) := by decide +kernel
theorem dX9_fullest_2 : decode cX9_fullest 2 = .ok (.iconst 1, 1) := by decide +kernel
theorem dX9_fullest_3 : decode cX9_fullest 3 = .ok (.invokestatic 90, 3) := by decide +kernel
theorem dX9_fullest_6 : decode cX9_fullest 6 = .ok (.ifCond .ne 10, 3) := by decide +kernel
theorem dX9_fullest_9 : decode cX9_fullest 9 = .ok (.aload_n 0, 1) := by decide +kernel
theorem dX9_fullest_10 : decode cX9_fullest 10 = .ok (.bipush (-2), 2) := by decide +kernel
theorem dX9_fullest_12 : decode cX9_fullest 12 = .ok (.invokevirtual 79, 3) := by decide +kernel
theorem dX9_fullest_15 : decode cX9_fullest 15 = .ok (.ireturn, 1) := by decide +kernel
theorem dX9_fullest_16 : decode cX9_fullest 16 = .ok (.iconst 0, 1) := by decide +kernel
theorem dX9_fullest_17 : decode cX9_fullest 17 = .ok (.istore_n 2, 1) := by decide +kernel
theorem dX9_fullest_18 : decode cX9_fullest 18 = .ok (.iconst 1, 1) := by decide +kernel
theorem dX9_fullest_19 : decode cX9_fullest 19 = .ok (.istore_n 3, 1) := by decide +kernel
theorem dX9_fullest_20 : decode cX9_fullest 20 = .ok (.iload_n 3, 1) := by decide +kernel
theorem dX9_fullest_21 : decode cX9_fullest 21 = .ok (.iconst 4, 1) := by decide +kernel
theorem dX9_fullest_22 : decode cX9_fullest 22 = .ok (.if_icmp .ge 34, 3) := by decide +kernel
theorem dX9_fullest_25 : decode cX9_fullest 25 = .ok (.aload_n 0, 1) := by decide +kernel
theorem dX9_fullest_26 : decode cX9_fullest 26 = .ok (.iload_n 3, 1) := by decide +kernel
theorem dX9_fullest_27 : decode cX9_fullest 27 = .ok (.invokevirtual 262, 3) := by decide +kernel
theorem dX9_fullest_30 : decode cX9_fullest 30 = .ok (.invokestatic 214, 3) := by decide +kernel
theorem dX9_fullest_33 : decode cX9_fullest 33 = .ok (.aload_n 0, 1) := by decide +kernel
theorem dX9_fullest_34 : decode cX9_fullest 34 = .ok (.iload_n 2, 1) := by decide +kernel
theorem dX9_fullest_35 : decode cX9_fullest 35 = .ok (.invokevirtual 262, 3) := by decide +kernel
theorem dX9_fullest_38 : decode cX9_fullest 38 = .ok (.invokestatic 214, 3) := by decide +kernel
theorem dX9_fullest_41 : decode cX9_fullest 41 = .ok (.if_icmp .le 7, 3) := by decide +kernel
theorem dX9_fullest_44 : decode cX9_fullest 44 = .ok (.iload_n 3, 1) := by decide +kernel
theorem dX9_fullest_45 : decode cX9_fullest 45 = .ok (.goto 4, 3) := by decide +kernel
theorem dX9_fullest_48 : decode cX9_fullest 48 = .ok (.iload_n 2, 1) := by decide +kernel
theorem dX9_fullest_49 : decode cX9_fullest 49 = .ok (.istore_n 2, 1) := by decide +kernel
theorem dX9_fullest_50 : decode cX9_fullest 50 = .ok (.iinc 3 1, 3) := by decide +kernel
theorem dX9_fullest_53 : decode cX9_fullest 53 = .ok (.goto (-33), 3) := by decide +kernel
theorem dX9_fullest_56 : decode cX9_fullest 56 = .ok (.iload_n 1, 1) := by decide +kernel
theorem dX9_fullest_57 : decode cX9_fullest 57 = .ok (.ifCond .ne 7, 3) := by decide +kernel
theorem dX9_fullest_60 : decode cX9_fullest 60 = .ok (.iload_n 2, 1) := by decide +kernel
theorem dX9_fullest_61 : decode cX9_fullest 61 = .ok (.goto 11, 3) := by decide +kernel
theorem dX9_fullest_64 : decode cX9_fullest 64 = .ok (.aload_n 0, 1) := by decide +kernel
theorem dX9_fullest_65 : decode cX9_fullest 65 = .ok (.iload_n 2, 1) := by decide +kernel
theorem dX9_fullest_66 : decode cX9_fullest 66 = .ok (.invokevirtual 262, 3) := by decide +kernel
theorem dX9_fullest_69 : decode cX9_fullest 69 = .ok (.invokestatic 214, 3) := by decide +kernel
theorem dX9_fullest_72 : decode cX9_fullest 72 = .ok (.ireturn, 1) := by decide +kernel
theorem dX9_thickest_0 : decode cX9_thickest 0 = .ok (.bipush (-9), 2) := by decide +kernel
theorem dX9_thickest_2 : decode cX9_thickest 2 = .ok (.istore_n 1, 1) := by decide +kernel
theorem dX9_thickest_3 : decode cX9_thickest 3 = .ok (.iconst 0, 1) := by decide +kernel
theorem dX9_thickest_4 : decode cX9_thickest 4 = .ok (.istore_n 2, 1) := by decide +kernel
theorem dX9_thickest_5 : decode cX9_thickest 5 = .ok (.iload_n 2, 1) := by decide +kernel
theorem dX9_thickest_6 : decode cX9_thickest 6 = .ok (.aload_n 0, 1) := by decide +kernel
theorem dX9_thickest_7 : decode cX9_thickest 7 = .ok (.getfield 58, 3) := by decide +kernel
theorem dX9_thickest_10 : decode cX9_thickest 10 = .ok (.if_icmp .ge 39, 3) := by decide +kernel
theorem dX9_thickest_13 : decode cX9_thickest 13 = .ok (.aload_n 0, 1) := by decide +kernel
theorem dX9_thickest_14 : decode cX9_thickest 14 = .ok (.getfield 31, 3) := by decide +kernel
theorem dX9_thickest_17 : decode cX9_thickest 17 = .ok (.iload_n 2, 1) := by decide +kernel
theorem dX9_thickest_18 : decode cX9_thickest 18 = .ok (.iaload, 1) := by decide +kernel
theorem dX9_thickest_19 : decode cX9_thickest 19 = .ok (.ifCond .ne 24, 3) := by decide +kernel
theorem dX9_thickest_22 : decode cX9_thickest 22 = .ok (.iload_n 1, 1) := by decide +kernel
theorem dX9_thickest_23 : decode cX9_thickest 23 = .ok (.ifCond .lt 18, 3) := by decide +kernel
theorem dX9_thickest_26 : decode cX9_thickest 26 = .ok (.aload_n 0, 1) := by decide +kernel
theorem dX9_thickest_27 : decode cX9_thickest 27 = .ok (.getfield 25, 3) := by decide +kernel
theorem dX9_thickest_30 : decode cX9_thickest 30 = .ok (.iload_n 2, 1) := by decide +kernel
theorem dX9_thickest_31 : decode cX9_thickest 31 = .ok (.iaload, 1) := by decide +kernel
theorem dX9_thickest_32 : decode cX9_thickest 32 = .ok (.aload_n 0, 1) := by decide +kernel
theorem dX9_thickest_33 : decode cX9_thickest 33 = .ok (.getfield 25, 3) := by decide +kernel
theorem dX9_thickest_36 : decode cX9_thickest 36 = .ok (.iload_n 1, 1) := by decide +kernel
theorem dX9_thickest_37 : decode cX9_thickest 37 = .ok (.iaload, 1) := by decide +kernel
theorem dX9_thickest_38 : decode cX9_thickest 38 = .ok (.if_icmp .le 5, 3) := by decide +kernel
theorem dX9_thickest_41 : decode cX9_thickest 41 = .ok (.iload_n 2, 1) := by decide +kernel
theorem dX9_thickest_42 : decode cX9_thickest 42 = .ok (.istore_n 1, 1) := by decide +kernel
theorem dX9_thickest_43 : decode cX9_thickest 43 = .ok (.iinc 2 1, 3) := by decide +kernel
theorem dX9_thickest_46 : decode cX9_thickest 46 = .ok (.goto (-41), 3) := by decide +kernel
theorem dX9_thickest_49 : decode cX9_thickest 49 = .ok (.iload_n 1, 1) := by decide +kernel
theorem dX9_thickest_50 : decode cX9_thickest 50 = .ok (.ireturn, 1) := by decide +kernel
theorem dX9_hatesOf_0 : decode cX9_hatesOf 0 = .ok (.iconst 0, 1) := by decide +kernel
theorem dX9_hatesOf_1 : decode cX9_hatesOf 1 = .ok (.istore_n 2, 1) := by decide +kernel
theorem dX9_hatesOf_2 : decode cX9_hatesOf 2 = .ok (.iconst 0, 1) := by decide +kernel
theorem dX9_hatesOf_3 : decode cX9_hatesOf 3 = .ok (.istore_n 3, 1) := by decide +kernel
theorem dX9_hatesOf_4 : decode cX9_hatesOf 4 = .ok (.iload_n 3, 1) := by decide +kernel
theorem dX9_hatesOf_5 : decode cX9_hatesOf 5 = .ok (.aload_n 0, 1) := by decide +kernel
theorem dX9_hatesOf_6 : decode cX9_hatesOf 6 = .ok (.getfield 65, 3) := by decide +kernel
theorem dX9_hatesOf_9 : decode cX9_hatesOf 9 = .ok (.if_icmp .ge 27, 3) := by decide +kernel
theorem dX9_hatesOf_12 : decode cX9_hatesOf 12 = .ok (.iload_n 2, 1) := by decide +kernel
theorem dX9_hatesOf_13 : decode cX9_hatesOf 13 = .ok (.iload_n 3, 1) := by decide +kernel
theorem dX9_hatesOf_14 : decode cX9_hatesOf 14 = .ok (.iload_n 1, 1) := by decide +kernel
theorem dX9_hatesOf_15 : decode cX9_hatesOf 15 = .ok (.if_icmp .ne 7, 3) := by decide +kernel
theorem dX9_hatesOf_18 : decode cX9_hatesOf 18 = .ok (.iconst 0, 1) := by decide +kernel
theorem dX9_hatesOf_19 : decode cX9_hatesOf 19 = .ok (.goto 9, 3) := by decide +kernel
theorem dX9_hatesOf_22 : decode cX9_hatesOf 22 = .ok (.aload_n 0, 1) := by decide +kernel
theorem dX9_hatesOf_23 : decode cX9_hatesOf 23 = .ok (.iload_n 1, 1) := by decide +kernel
theorem dX9_hatesOf_24 : decode cX9_hatesOf 24 = .ok (.iload_n 3, 1) := by decide +kernel
theorem dX9_hatesOf_25 : decode cX9_hatesOf 25 = .ok (.invokevirtual 180, 3) := by decide +kernel
theorem dX9_hatesOf_28 : decode cX9_hatesOf 28 = .ok (.iadd, 1) := by decide +kernel
theorem dX9_hatesOf_29 : decode cX9_hatesOf 29 = .ok (.istore_n 2, 1) := by decide +kernel
theorem dX9_hatesOf_30 : decode cX9_hatesOf 30 = .ok (.iinc 3 1, 3) := by decide +kernel
theorem dX9_hatesOf_33 : decode cX9_hatesOf 33 = .ok (.goto (-29), 3) := by decide +kernel
theorem dX9_hatesOf_36 : decode cX9_hatesOf 36 = .ok (.iload_n 2, 1) := by decide +kernel
theorem dX9_hatesOf_37 : decode cX9_hatesOf 37 = .ok (.ireturn, 1) := by decide +kernel
theorem dX9_mildest_0 : decode cX9_mildest 0 = .ok (.bipush (-9), 2) := by decide +kernel
theorem dX9_mildest_2 : decode cX9_mildest 2 = .ok (.istore_n 1, 1) := by decide +kernel
theorem dX9_mildest_3 : decode cX9_mildest 3 = .ok (.iconst 0, 1) := by decide +kernel
theorem dX9_mildest_4 : decode cX9_mildest 4 = .ok (.istore_n 2, 1) := by decide +kernel
theorem dX9_mildest_5 : decode cX9_mildest 5 = .ok (.iload_n 2, 1) := by decide +kernel
theorem dX9_mildest_6 : decode cX9_mildest 6 = .ok (.aload_n 0, 1) := by decide +kernel
theorem dX9_mildest_7 : decode cX9_mildest 7 = .ok (.getfield 65, 3) := by decide +kernel
theorem dX9_mildest_10 : decode cX9_mildest 10 = .ok (.if_icmp .ge 32, 3) := by decide +kernel
theorem dX9_mildest_13 : decode cX9_mildest 13 = .ok (.iload_n 1, 1) := by decide +kernel
theorem dX9_mildest_14 : decode cX9_mildest 14 = .ok (.ifCond .lt 16, 3) := by decide +kernel
theorem dX9_mildest_17 : decode cX9_mildest 17 = .ok (.aload_n 0, 1) := by decide +kernel
theorem dX9_mildest_18 : decode cX9_mildest 18 = .ok (.iload_n 2, 1) := by decide +kernel
theorem dX9_mildest_19 : decode cX9_mildest 19 = .ok (.invokevirtual 309, 3) := by decide +kernel
theorem dX9_mildest_22 : decode cX9_mildest 22 = .ok (.aload_n 0, 1) := by decide +kernel
theorem dX9_mildest_23 : decode cX9_mildest 23 = .ok (.iload_n 1, 1) := by decide +kernel
theorem dX9_mildest_24 : decode cX9_mildest 24 = .ok (.invokevirtual 309, 3) := by decide +kernel
theorem dX9_mildest_27 : decode cX9_mildest 27 = .ok (.if_icmp .ge 7, 3) := by decide +kernel
theorem dX9_mildest_30 : decode cX9_mildest 30 = .ok (.iload_n 2, 1) := by decide +kernel
theorem dX9_mildest_31 : decode cX9_mildest 31 = .ok (.goto 4, 3) := by decide +kernel
theorem dX9_mildest_34 : decode cX9_mildest 34 = .ok (.iload_n 1, 1) := by decide +kernel
theorem dX9_mildest_35 : decode cX9_mildest 35 = .ok (.istore_n 1, 1) := by decide +kernel
theorem dX9_mildest_36 : decode cX9_mildest 36 = .ok (.iinc 2 1, 3) := by decide +kernel
theorem dX9_mildest_39 : decode cX9_mildest 39 = .ok (.goto (-34), 3) := by decide +kernel
theorem dX9_mildest_42 : decode cX9_mildest 42 = .ok (.iload_n 1, 1) := by decide +kernel
theorem dX9_mildest_43 : decode cX9_mildest 43 = .ok (.ireturn, 1) := by decide +kernel
theorem dX9_bare_0 : decode cX9_bare 0 = .ok (.iconst 0, 1) := by decide +kernel
theorem dX9_bare_1 : decode cX9_bare 1 = .ok (.istore_n 1, 1) := by decide +kernel
theorem dX9_bare_2 : decode cX9_bare 2 = .ok (.iconst 0, 1) := by decide +kernel
theorem dX9_bare_3 : decode cX9_bare 3 = .ok (.istore_n 2, 1) := by decide +kernel
theorem dX9_bare_4 : decode cX9_bare 4 = .ok (.iload_n 2, 1) := by decide +kernel
theorem dX9_bare_5 : decode cX9_bare 5 = .ok (.aload_n 0, 1) := by decide +kernel
theorem dX9_bare_6 : decode cX9_bare 6 = .ok (.getfield 58, 3) := by decide +kernel
theorem dX9_bare_9 : decode cX9_bare 9 = .ok (.if_icmp .ge 50, 3) := by decide +kernel
theorem dX9_bare_12 : decode cX9_bare 12 = .ok (.iload_n 1, 1) := by decide +kernel
theorem dX9_bare_13 : decode cX9_bare 13 = .ok (.aload_n 0, 1) := by decide +kernel
theorem dX9_bare_14 : decode cX9_bare 14 = .ok (.getfield 31, 3) := by decide +kernel
theorem dX9_bare_17 : decode cX9_bare 17 = .ok (.iload_n 2, 1) := by decide +kernel
theorem dX9_bare_18 : decode cX9_bare 18 = .ok (.iaload, 1) := by decide +kernel
theorem dX9_bare_19 : decode cX9_bare 19 = .ok (.ifCond .ne 31, 3) := by decide +kernel
theorem dX9_bare_22 : decode cX9_bare 22 = .ok (.aload_n 0, 1) := by decide +kernel
theorem dX9_bare_23 : decode cX9_bare 23 = .ok (.aload_n 0, 1) := by decide +kernel
theorem dX9_bare_24 : decode cX9_bare 24 = .ok (.getfield 28, 3) := by decide +kernel
theorem dX9_bare_27 : decode cX9_bare 27 = .ok (.iload_n 2, 1) := by decide +kernel
theorem dX9_bare_28 : decode cX9_bare 28 = .ok (.iaload, 1) := by decide +kernel
theorem dX9_bare_29 : decode cX9_bare 29 = .ok (.invokevirtual 262, 3) := by decide +kernel
theorem dX9_bare_32 : decode cX9_bare 32 = .ok (.invokestatic 214, 3) := by decide +kernel
theorem dX9_bare_35 : decode cX9_bare 35 = .ok (.iconst 2, 1) := by decide +kernel
theorem dX9_bare_36 : decode cX9_bare 36 = .ok (.if_icmp .ge 14, 3) := by decide +kernel
theorem dX9_bare_39 : decode cX9_bare 39 = .ok (.iconst 1, 1) := by decide +kernel
theorem dX9_bare_40 : decode cX9_bare 40 = .ok (.aload_n 0, 1) := by decide +kernel
theorem dX9_bare_41 : decode cX9_bare 41 = .ok (.getfield 28, 3) := by decide +kernel
theorem dX9_bare_44 : decode cX9_bare 44 = .ok (.iload_n 2, 1) := by decide +kernel
theorem dX9_bare_45 : decode cX9_bare 45 = .ok (.iaload, 1) := by decide +kernel
theorem dX9_bare_46 : decode cX9_bare 46 = .ok (.ishl, 1) := by decide +kernel
theorem dX9_bare_47 : decode cX9_bare 47 = .ok (.goto 4, 3) := by decide +kernel
theorem dX9_bare_50 : decode cX9_bare 50 = .ok (.iconst 0, 1) := by decide +kernel
theorem dX9_bare_51 : decode cX9_bare 51 = .ok (.ior, 1) := by decide +kernel
theorem dX9_bare_52 : decode cX9_bare 52 = .ok (.istore_n 1, 1) := by decide +kernel
theorem dX9_bare_53 : decode cX9_bare 53 = .ok (.iinc 2 1, 3) := by decide +kernel
theorem dX9_bare_56 : decode cX9_bare 56 = .ok (.goto (-52), 3) := by decide +kernel
theorem dX9_bare_59 : decode cX9_bare 59 = .ok (.iload_n 1, 1) := by decide +kernel
theorem dX9_bare_60 : decode cX9_bare 60 = .ok (.ireturn, 1) := by decide +kernel
theorem dX9_mean_0 : decode cX9_mean 0 = .ok (.iload_n 1, 1) := by decide +kernel
theorem dX9_mean_1 : decode cX9_mean 1 = .ok (.iconst 0, 1) := by decide +kernel
theorem dX9_mean_2 : decode cX9_mean 2 = .ok (.iconst 1, 1) := by decide +kernel
theorem dX9_mean_3 : decode cX9_mean 3 = .ok (.invokestatic 90, 3) := by decide +kernel
theorem dX9_mean_6 : decode cX9_mean 6 = .ok (.ifCond .ne 10, 3) := by decide +kernel
theorem dX9_mean_9 : decode cX9_mean 9 = .ok (.aload_n 0, 1) := by decide +kernel
theorem dX9_mean_10 : decode cX9_mean 10 = .ok (.bipush (-2), 2) := by decide +kernel
theorem dX9_mean_12 : decode cX9_mean 12 = .ok (.invokevirtual 285, 3) := by decide +kernel
theorem dX9_mean_15 : decode cX9_mean 15 = .ok (.lreturn, 1) := by decide +kernel
theorem dX9_mean_16 : decode cX9_mean 16 = .ok (.aload_n 0, 1) := by decide +kernel
theorem dX9_mean_17 : decode cX9_mean 17 = .ok (.getfield 65, 3) := by decide +kernel
theorem dX9_mean_20 : decode cX9_mean 20 = .ok (.iconst 2, 1) := by decide +kernel
theorem dX9_mean_21 : decode cX9_mean 21 = .ok (.if_icmp .ge 8, 3) := by decide +kernel
theorem dX9_mean_24 : decode cX9_mean 24 = .ok (.iload_n 1, 1) := by decide +kernel
theorem dX9_mean_25 : decode cX9_mean 25 = .ok (.i2l, 1) := by decide +kernel
theorem dX9_mean_26 : decode cX9_mean 26 = .ok (.goto 26, 3) := by decide +kernel
theorem dX9_mean_29 : decode cX9_mean 29 = .ok (.aload_n 0, 1) := by decide +kernel
theorem dX9_mean_30 : decode cX9_mean 30 = .ok (.invokevirtual 232, 3) := by decide +kernel
theorem dX9_mean_33 : decode cX9_mean 33 = .ok (.i2l, 1) := by decide +kernel
theorem dX9_mean_34 : decode cX9_mean 34 = .ok (.aload_n 0, 1) := by decide +kernel
theorem dX9_mean_35 : decode cX9_mean 35 = .ok (.getfield 65, 3) := by decide +kernel
theorem dX9_mean_38 : decode cX9_mean 38 = .ok (.aload_n 0, 1) := by decide +kernel
theorem dX9_mean_39 : decode cX9_mean 39 = .ok (.getfield 65, 3) := by decide +kernel
theorem dX9_mean_42 : decode cX9_mean 42 = .ok (.iconst 1, 1) := by decide +kernel
theorem dX9_mean_43 : decode cX9_mean 43 = .ok (.isub, 1) := by decide +kernel
theorem dX9_mean_44 : decode cX9_mean 44 = .ok (.imul, 1) := by decide +kernel
theorem dX9_mean_45 : decode cX9_mean 45 = .ok (.iconst 2, 1) := by decide +kernel
theorem dX9_mean_46 : decode cX9_mean 46 = .ok (.idiv, 1) := by decide +kernel
theorem dX9_mean_47 : decode cX9_mean 47 = .ok (.i2l, 1) := by decide +kernel
theorem dX9_mean_48 : decode cX9_mean 48 = .ok (.iload_n 1, 1) := by decide +kernel
theorem dX9_mean_49 : decode cX9_mean 49 = .ok (.invokestatic 297, 3) := by decide +kernel
theorem dX9_mean_52 : decode cX9_mean 52 = .ok (.lreturn, 1) := by decide +kernel
theorem dX9_used_0 : decode cX9_used 0 = .ok (.aload_n 0, 1) := by decide +kernel
theorem dX9_used_1 : decode cX9_used 1 = .ok (.iload_n 1, 1) := by decide +kernel
theorem dX9_used_2 : decode cX9_used 2 = .ok (.iload_n 2, 1) := by decide +kernel
theorem dX9_used_3 : decode cX9_used 3 = .ok (.invokevirtual 125, 3) := by decide +kernel
theorem dX9_used_6 : decode cX9_used 6 = .ok (.ifCond .ne 7, 3) := by decide +kernel
theorem dX9_used_9 : decode cX9_used 9 = .ok (.iconst (-1), 1) := by decide +kernel
theorem dX9_used_10 : decode cX9_used 10 = .ok (.goto 7, 3) := by decide +kernel
theorem dX9_used_13 : decode cX9_used 13 = .ok (.iload_n 3, 1) := by decide +kernel
theorem dX9_used_14 : decode cX9_used 14 = .ok (.invokestatic 223, 3) := by decide +kernel
theorem dX9_used_17 : decode cX9_used 17 = .ok (.istore 4, 2) := by decide +kernel
theorem dX9_used_19 : decode cX9_used 19 = .ok (.iload 4, 2) := by decide +kernel
theorem dX9_used_21 : decode cX9_used 21 = .ok (.ifCond .eq 12, 3) := by decide +kernel
theorem dX9_used_24 : decode cX9_used 24 = .ok (.aload_n 0, 1) := by decide +kernel
theorem dX9_used_25 : decode cX9_used 25 = .ok (.iload 4, 2) := by decide +kernel
theorem dX9_used_27 : decode cX9_used 27 = .ok (.invokevirtual 312, 3) := by decide +kernel
theorem dX9_used_30 : decode cX9_used 30 = .ok (.goto 17, 3) := by decide +kernel
theorem dX9_used_33 : decode cX9_used 33 = .ok (.aload_n 0, 1) := by decide +kernel
theorem dX9_used_34 : decode cX9_used 34 = .ok (.iload_n 1, 1) := by decide +kernel
theorem dX9_used_35 : decode cX9_used 35 = .ok (.iload_n 2, 1) := by decide +kernel
theorem dX9_used_36 : decode cX9_used 36 = .ok (.invokevirtual 180, 3) := by decide +kernel
theorem dX9_used_39 : decode cX9_used 39 = .ok (.aload_n 0, 1) := by decide +kernel
theorem dX9_used_40 : decode cX9_used 40 = .ok (.iload_n 1, 1) := by decide +kernel
theorem dX9_used_41 : decode cX9_used 41 = .ok (.iload_n 2, 1) := by decide +kernel
theorem dX9_used_42 : decode cX9_used 42 = .ok (.iload_n 3, 1) := by decide +kernel
theorem dX9_used_43 : decode cX9_used 43 = .ok (.invokevirtual 226, 3) := by decide +kernel
theorem dX9_used_46 : decode cX9_used 46 = .ok (.isub, 1) := by decide +kernel
theorem dX9_used_47 : decode cX9_used 47 = .ok (.ireturn, 1) := by decide +kernel
theorem dX9_manySwapped_0 : decode cX9_manySwapped 0 = .ok (.aload_n 0, 1) := by decide +kernel
theorem dX9_manySwapped_1 : decode cX9_manySwapped 1 = .ok (.getfield 19, 3) := by decide +kernel
theorem dX9_manySwapped_4 : decode cX9_manySwapped 4 = .ok (.iload_n 1, 1) := by decide +kernel
theorem dX9_manySwapped_5 : decode cX9_manySwapped 5 = .ok (.iaload, 1) := by decide +kernel
theorem dX9_manySwapped_6 : decode cX9_manySwapped 6 = .ok (.istore 4, 2) := by decide +kernel
theorem dX9_manySwapped_8 : decode cX9_manySwapped 8 = .ok (.aload_n 0, 1) := by decide +kernel
theorem dX9_manySwapped_9 : decode cX9_manySwapped 9 = .ok (.getfield 19, 3) := by decide +kernel
theorem dX9_manySwapped_12 : decode cX9_manySwapped 12 = .ok (.iload_n 1, 1) := by decide +kernel
theorem dX9_manySwapped_13 : decode cX9_manySwapped 13 = .ok (.aload_n 0, 1) := by decide +kernel
theorem dX9_manySwapped_14 : decode cX9_manySwapped 14 = .ok (.getfield 19, 3) := by decide +kernel
theorem dX9_manySwapped_17 : decode cX9_manySwapped 17 = .ok (.iload_n 2, 1) := by decide +kernel
theorem dX9_manySwapped_18 : decode cX9_manySwapped 18 = .ok (.iaload, 1) := by decide +kernel
theorem dX9_manySwapped_19 : decode cX9_manySwapped 19 = .ok (.iastore, 1) := by decide +kernel
theorem dX9_manySwapped_20 : decode cX9_manySwapped 20 = .ok (.aload_n 0, 1) := by decide +kernel
theorem dX9_manySwapped_21 : decode cX9_manySwapped 21 = .ok (.getfield 19, 3) := by decide +kernel
theorem dX9_manySwapped_24 : decode cX9_manySwapped 24 = .ok (.iload_n 2, 1) := by decide +kernel
theorem dX9_manySwapped_25 : decode cX9_manySwapped 25 = .ok (.iload 4, 2) := by decide +kernel
theorem dX9_manySwapped_27 : decode cX9_manySwapped 27 = .ok (.iastore, 1) := by decide +kernel
theorem dX9_manySwapped_28 : decode cX9_manySwapped 28 = .ok (.aload_n 0, 1) := by decide +kernel
theorem dX9_manySwapped_29 : decode cX9_manySwapped 29 = .ok (.iload_n 3, 1) := by decide +kernel
theorem dX9_manySwapped_30 : decode cX9_manySwapped 30 = .ok (.invokevirtual 229, 3) := by decide +kernel
theorem dX9_manySwapped_33 : decode cX9_manySwapped 33 = .ok (.invokestatic 214, 3) := by decide +kernel
theorem dX9_manySwapped_36 : decode cX9_manySwapped 36 = .ok (.istore 5, 2) := by decide +kernel
theorem dX9_manySwapped_38 : decode cX9_manySwapped 38 = .ok (.aload_n 0, 1) := by decide +kernel
theorem dX9_manySwapped_39 : decode cX9_manySwapped 39 = .ok (.getfield 19, 3) := by decide +kernel
theorem dX9_manySwapped_42 : decode cX9_manySwapped 42 = .ok (.iload_n 2, 1) := by decide +kernel
theorem dX9_manySwapped_43 : decode cX9_manySwapped 43 = .ok (.aload_n 0, 1) := by decide +kernel
theorem dX9_manySwapped_44 : decode cX9_manySwapped 44 = .ok (.getfield 19, 3) := by decide +kernel
theorem dX9_manySwapped_47 : decode cX9_manySwapped 47 = .ok (.iload_n 1, 1) := by decide +kernel
theorem dX9_manySwapped_48 : decode cX9_manySwapped 48 = .ok (.iaload, 1) := by decide +kernel
theorem dX9_manySwapped_49 : decode cX9_manySwapped 49 = .ok (.iastore, 1) := by decide +kernel
theorem dX9_manySwapped_50 : decode cX9_manySwapped 50 = .ok (.aload_n 0, 1) := by decide +kernel
theorem dX9_manySwapped_51 : decode cX9_manySwapped 51 = .ok (.getfield 19, 3) := by decide +kernel
theorem dX9_manySwapped_54 : decode cX9_manySwapped 54 = .ok (.iload_n 1, 1) := by decide +kernel
theorem dX9_manySwapped_55 : decode cX9_manySwapped 55 = .ok (.iload 4, 2) := by decide +kernel
theorem dX9_manySwapped_57 : decode cX9_manySwapped 57 = .ok (.iastore, 1) := by decide +kernel
theorem dX9_manySwapped_58 : decode cX9_manySwapped 58 = .ok (.iload 5, 2) := by decide +kernel
theorem dX9_manySwapped_60 : decode cX9_manySwapped 60 = .ok (.ireturn, 1) := by decide +kernel
theorem dX9_swap_0 : decode cX9_swap 0 = .ok (.iload_n 1, 1) := by decide +kernel
theorem dX9_swap_1 : decode cX9_swap 1 = .ok (.invokestatic 223, 3) := by decide +kernel
theorem dX9_swap_4 : decode cX9_swap 4 = .ok (.istore_n 2, 1) := by decide +kernel
theorem dX9_swap_5 : decode cX9_swap 5 = .ok (.iload_n 2, 1) := by decide +kernel
theorem dX9_swap_6 : decode cX9_swap 6 = .ok (.ifCond .eq 9, 3) := by decide +kernel
theorem dX9_swap_9 : decode cX9_swap 9 = .ok (.aload_n 0, 1) := by decide +kernel
theorem dX9_swap_10 : decode cX9_swap 10 = .ok (.iload_n 2, 1) := by decide +kernel
theorem dX9_swap_11 : decode cX9_swap 11 = .ok (.invokevirtual 79, 3) := by decide +kernel
theorem dX9_swap_14 : decode cX9_swap 14 = .ok (.ireturn, 1) := by decide +kernel
theorem dX9_swap_15 : decode cX9_swap 15 = .ok (.bipush (-9), 2) := by decide +kernel
theorem dX9_swap_17 : decode cX9_swap 17 = .ok (.istore_n 3, 1) := by decide +kernel
theorem dX9_swap_18 : decode cX9_swap 18 = .ok (.aload_n 0, 1) := by decide +kernel
theorem dX9_swap_19 : decode cX9_swap 19 = .ok (.iload_n 1, 1) := by decide +kernel
theorem dX9_swap_20 : decode cX9_swap 20 = .ok (.invokevirtual 229, 3) := by decide +kernel
theorem dX9_swap_23 : decode cX9_swap 23 = .ok (.invokestatic 214, 3) := by decide +kernel
theorem dX9_swap_26 : decode cX9_swap 26 = .ok (.istore 4, 2) := by decide +kernel
theorem dX9_swap_28 : decode cX9_swap 28 = .ok (.iconst 0, 1) := by decide +kernel
theorem dX9_swap_29 : decode cX9_swap 29 = .ok (.istore 5, 2) := by decide +kernel
theorem dX9_swap_31 : decode cX9_swap 31 = .ok (.iload 5, 2) := by decide +kernel
theorem dX9_swap_33 : decode cX9_swap 33 = .ok (.aload_n 0, 1) := by decide +kernel
theorem dX9_swap_34 : decode cX9_swap 34 = .ok (.getfield 65, 3) := by decide +kernel
theorem dX9_swap_37 : decode cX9_swap 37 = .ok (.if_icmp .ge 86, 3) := by decide +kernel
theorem dX9_swap_40 : decode cX9_swap 40 = .ok (.iload 5, 2) := by decide +kernel
theorem dX9_swap_42 : decode cX9_swap 42 = .ok (.iconst 1, 1) := by decide +kernel
theorem dX9_swap_43 : decode cX9_swap 43 = .ok (.iadd, 1) := by decide +kernel
theorem dX9_swap_44 : decode cX9_swap 44 = .ok (.istore 6, 2) := by decide +kernel
theorem dX9_swap_46 : decode cX9_swap 46 = .ok (.iload 6, 2) := by decide +kernel
theorem dX9_swap_48 : decode cX9_swap 48 = .ok (.aload_n 0, 1) := by decide +kernel
theorem dX9_swap_49 : decode cX9_swap 49 = .ok (.getfield 65, 3) := by decide +kernel
theorem dX9_swap_52 : decode cX9_swap 52 = .ok (.if_icmp .ge 65, 3) := by decide +kernel
theorem dX9_swap_55 : decode cX9_swap 55 = .ok (.aload_n 0, 1) := by decide +kernel
theorem dX9_swap_56 : decode cX9_swap 56 = .ok (.getfield 19, 3) := by decide +kernel
theorem dX9_swap_59 : decode cX9_swap 59 = .ok (.iload 5, 2) := by decide +kernel
theorem dX9_swap_61 : decode cX9_swap 61 = .ok (.iaload, 1) := by decide +kernel
theorem dX9_swap_62 : decode cX9_swap 62 = .ok (.aload_n 0, 1) := by decide +kernel
theorem dX9_swap_63 : decode cX9_swap 63 = .ok (.getfield 19, 3) := by decide +kernel
theorem dX9_swap_66 : decode cX9_swap 66 = .ok (.iload 6, 2) := by decide +kernel
theorem dX9_swap_68 : decode cX9_swap 68 = .ok (.iaload, 1) := by decide +kernel
theorem dX9_swap_69 : decode cX9_swap 69 = .ok (.if_icmp .ne 8, 3) := by decide +kernel
theorem dX9_swap_72 : decode cX9_swap 72 = .ok (.bipush (-9), 2) := by decide +kernel
theorem dX9_swap_74 : decode cX9_swap 74 = .ok (.goto 12, 3) := by decide +kernel
theorem dX9_swap_77 : decode cX9_swap 77 = .ok (.aload_n 0, 1) := by decide +kernel
theorem dX9_swap_78 : decode cX9_swap 78 = .ok (.iload 5, 2) := by decide +kernel
theorem dX9_swap_80 : decode cX9_swap 80 = .ok (.iload 6, 2) := by decide +kernel
theorem dX9_swap_82 : decode cX9_swap 82 = .ok (.iload_n 1, 1) := by decide +kernel
theorem dX9_swap_83 : decode cX9_swap 83 = .ok (.invokevirtual 315, 3) := by decide +kernel
theorem dX9_swap_86 : decode cX9_swap 86 = .ok (.istore 7, 2) := by decide +kernel
theorem dX9_swap_88 : decode cX9_swap 88 = .ok (.iload 7, 2) := by decide +kernel
theorem dX9_swap_90 : decode cX9_swap 90 = .ok (.iload 4, 2) := by decide +kernel
theorem dX9_swap_92 : decode cX9_swap 92 = .ok (.if_icmp .gt 6, 3) := by decide +kernel
theorem dX9_swap_95 : decode cX9_swap 95 = .ok (.goto 16, 3) := by decide +kernel
theorem dX9_swap_98 : decode cX9_swap 98 = .ok (.bipush 10, 2) := by decide +kernel
theorem dX9_swap_100 : decode cX9_swap 100 = .ok (.iload 5, 2) := by decide +kernel
theorem dX9_swap_102 : decode cX9_swap 102 = .ok (.imul, 1) := by decide +kernel
theorem dX9_swap_103 : decode cX9_swap 103 = .ok (.iload 6, 2) := by decide +kernel
theorem dX9_swap_105 : decode cX9_swap 105 = .ok (.iadd, 1) := by decide +kernel
theorem dX9_swap_106 : decode cX9_swap 106 = .ok (.istore_n 3, 1) := by decide +kernel
theorem dX9_swap_107 : decode cX9_swap 107 = .ok (.iload 7, 2) := by decide +kernel
theorem dX9_swap_109 : decode cX9_swap 109 = .ok (.istore 4, 2) := by decide +kernel
theorem dX9_swap_111 : decode cX9_swap 111 = .ok (.iinc 6 1, 3) := by decide +kernel
theorem dX9_swap_114 : decode cX9_swap 114 = .ok (.goto (-68), 3) := by decide +kernel
theorem dX9_swap_117 : decode cX9_swap 117 = .ok (.iinc 5 1, 3) := by decide +kernel
theorem dX9_swap_120 : decode cX9_swap 120 = .ok (.goto (-89), 3) := by decide +kernel
theorem dX9_swap_123 : decode cX9_swap 123 = .ok (.iload_n 3, 1) := by decide +kernel
theorem dX9_swap_124 : decode cX9_swap 124 = .ok (.ireturn, 1) := by decide +kernel
theorem dX9_apart_0 : decode cX9_apart 0 = .ok (.iload_n 1, 1) := by decide +kernel
theorem dX9_apart_1 : decode cX9_apart 1 = .ok (.invokestatic 223, 3) := by decide +kernel
theorem dX9_apart_4 : decode cX9_apart 4 = .ok (.istore_n 2, 1) := by decide +kernel
theorem dX9_apart_5 : decode cX9_apart 5 = .ok (.iload_n 2, 1) := by decide +kernel
theorem dX9_apart_6 : decode cX9_apart 6 = .ok (.ifCond .eq 9, 3) := by decide +kernel
theorem dX9_apart_9 : decode cX9_apart 9 = .ok (.aload_n 0, 1) := by decide +kernel
theorem dX9_apart_10 : decode cX9_apart 10 = .ok (.iload_n 2, 1) := by decide +kernel
theorem dX9_apart_11 : decode cX9_apart 11 = .ok (.invokevirtual 79, 3) := by decide +kernel
theorem dX9_apart_14 : decode cX9_apart 14 = .ok (.ireturn, 1) := by decide +kernel
theorem dX9_apart_15 : decode cX9_apart 15 = .ok (.aload_n 0, 1) := by decide +kernel
theorem dX9_apart_16 : decode cX9_apart 16 = .ok (.invokevirtual 217, 3) := by decide +kernel
theorem dX9_apart_19 : decode cX9_apart 19 = .ok (.iconst 0, 1) := by decide +kernel
theorem dX9_apart_20 : decode cX9_apart 20 = .ok (.istore_n 3, 1) := by decide +kernel
theorem dX9_apart_21 : decode cX9_apart 21 = .ok (.iconst 0, 1) := by decide +kernel
theorem dX9_apart_22 : decode cX9_apart 22 = .ok (.istore 4, 2) := by decide +kernel
theorem dX9_apart_24 : decode cX9_apart 24 = .ok (.iload 4, 2) := by decide +kernel
theorem dX9_apart_26 : decode cX9_apart 26 = .ok (.iload_n 1, 1) := by decide +kernel
theorem dX9_apart_27 : decode cX9_apart 27 = .ok (.if_icmp .ge 28, 3) := by decide +kernel
theorem dX9_apart_30 : decode cX9_apart 30 = .ok (.aload_n 0, 1) := by decide +kernel
theorem dX9_apart_31 : decode cX9_apart 31 = .ok (.invokevirtual 202, 3) := by decide +kernel
theorem dX9_apart_34 : decode cX9_apart 34 = .ok (.iload_n 3, 1) := by decide +kernel
theorem dX9_apart_35 : decode cX9_apart 35 = .ok (.aload_n 0, 1) := by decide +kernel
theorem dX9_apart_36 : decode cX9_apart 36 = .ok (.getfield 193, 3) := by decide +kernel
theorem dX9_apart_39 : decode cX9_apart 39 = .ok (.ifCond .ne 7, 3) := by decide +kernel
theorem dX9_apart_42 : decode cX9_apart 42 = .ok (.iconst 1, 1) := by decide +kernel
theorem dX9_apart_43 : decode cX9_apart 43 = .ok (.goto 4, 3) := by decide +kernel
theorem dX9_apart_46 : decode cX9_apart 46 = .ok (.iconst 0, 1) := by decide +kernel
theorem dX9_apart_47 : decode cX9_apart 47 = .ok (.iadd, 1) := by decide +kernel
theorem dX9_apart_48 : decode cX9_apart 48 = .ok (.istore_n 3, 1) := by decide +kernel
theorem dX9_apart_49 : decode cX9_apart 49 = .ok (.iinc 4 1, 3) := by decide +kernel
theorem dX9_apart_52 : decode cX9_apart 52 = .ok (.goto (-28), 3) := by decide +kernel
theorem dX9_apart_55 : decode cX9_apart 55 = .ok (.aload_n 0, 1) := by decide +kernel
theorem dX9_apart_56 : decode cX9_apart 56 = .ok (.invokevirtual 220, 3) := by decide +kernel
theorem dX9_apart_59 : decode cX9_apart 59 = .ok (.iload_n 3, 1) := by decide +kernel
theorem dX9_apart_60 : decode cX9_apart 60 = .ok (.ireturn, 1) := by decide +kernel
theorem dX9_enemy_0 : decode cX9_enemy 0 = .ok (.aload_n 0, 1) := by decide +kernel
theorem dX9_enemy_1 : decode cX9_enemy 1 = .ok (.iload_n 1, 1) := by decide +kernel
theorem dX9_enemy_2 : decode cX9_enemy 2 = .ok (.invokevirtual 68, 3) := by decide +kernel
theorem dX9_enemy_5 : decode cX9_enemy 5 = .ok (.ifCond .ne 9, 3) := by decide +kernel
theorem dX9_enemy_8 : decode cX9_enemy 8 = .ok (.aload_n 0, 1) := by decide +kernel
theorem dX9_enemy_9 : decode cX9_enemy 9 = .ok (.iconst (-1), 1) := by decide +kernel
theorem dX9_enemy_10 : decode cX9_enemy 10 = .ok (.invokevirtual 79, 3) := by decide +kernel
theorem dX9_enemy_13 : decode cX9_enemy 13 = .ok (.ireturn, 1) := by decide +kernel
theorem dX9_enemy_14 : decode cX9_enemy 14 = .ok (.bipush (-9), 2) := by decide +kernel
theorem dX9_enemy_16 : decode cX9_enemy 16 = .ok (.istore_n 2, 1) := by decide +kernel
theorem dX9_enemy_17 : decode cX9_enemy 17 = .ok (.iconst 0, 1) := by decide +kernel
theorem dX9_enemy_18 : decode cX9_enemy 18 = .ok (.istore_n 3, 1) := by decide +kernel
theorem dX9_enemy_19 : decode cX9_enemy 19 = .ok (.iload_n 3, 1) := by decide +kernel
theorem dX9_enemy_20 : decode cX9_enemy 20 = .ok (.aload_n 0, 1) := by decide +kernel
theorem dX9_enemy_21 : decode cX9_enemy 21 = .ok (.getfield 65, 3) := by decide +kernel
theorem dX9_enemy_24 : decode cX9_enemy 24 = .ok (.if_icmp .ge 35, 3) := by decide +kernel
theorem dX9_enemy_27 : decode cX9_enemy 27 = .ok (.iload_n 3, 1) := by decide +kernel
theorem dX9_enemy_28 : decode cX9_enemy 28 = .ok (.iload_n 1, 1) := by decide +kernel
theorem dX9_enemy_29 : decode cX9_enemy 29 = .ok (.if_icmp .eq 24, 3) := by decide +kernel
theorem dX9_enemy_32 : decode cX9_enemy 32 = .ok (.iload_n 2, 1) := by decide +kernel
theorem dX9_enemy_33 : decode cX9_enemy 33 = .ok (.ifCond .lt 18, 3) := by decide +kernel
theorem dX9_enemy_36 : decode cX9_enemy 36 = .ok (.aload_n 0, 1) := by decide +kernel
theorem dX9_enemy_37 : decode cX9_enemy 37 = .ok (.iload_n 1, 1) := by decide +kernel
theorem dX9_enemy_38 : decode cX9_enemy 38 = .ok (.iload_n 3, 1) := by decide +kernel
theorem dX9_enemy_39 : decode cX9_enemy 39 = .ok (.invokevirtual 180, 3) := by decide +kernel
theorem dX9_enemy_42 : decode cX9_enemy 42 = .ok (.aload_n 0, 1) := by decide +kernel
theorem dX9_enemy_43 : decode cX9_enemy 43 = .ok (.iload_n 1, 1) := by decide +kernel
theorem dX9_enemy_44 : decode cX9_enemy 44 = .ok (.iload_n 2, 1) := by decide +kernel
theorem dX9_enemy_45 : decode cX9_enemy 45 = .ok (.invokevirtual 180, 3) := by decide +kernel
theorem dX9_enemy_48 : decode cX9_enemy 48 = .ok (.if_icmp .le 5, 3) := by decide +kernel
theorem dX9_enemy_51 : decode cX9_enemy 51 = .ok (.iload_n 3, 1) := by decide +kernel
theorem dX9_enemy_52 : decode cX9_enemy 52 = .ok (.istore_n 2, 1) := by decide +kernel
theorem dX9_enemy_53 : decode cX9_enemy 53 = .ok (.iinc 3 1, 3) := by decide +kernel
theorem dX9_enemy_56 : decode cX9_enemy 56 = .ok (.goto (-37), 3) := by decide +kernel
theorem dX9_enemy_59 : decode cX9_enemy 59 = .ok (.iload_n 2, 1) := by decide +kernel
theorem dX9_enemy_60 : decode cX9_enemy 60 = .ok (.ireturn, 1) := by decide +kernel
theorem dX9_can_0 : decode cX9_can 0 = .ok (.iload_n 1, 1) := by decide +kernel
theorem dX9_can_1 : decode cX9_can 1 = .ok (.iconst 0, 1) := by decide +kernel
theorem dX9_can_2 : decode cX9_can 2 = .ok (.bipush 99, 2) := by decide +kernel
theorem dX9_can_4 : decode cX9_can 4 = .ok (.invokestatic 72, 3) := by decide +kernel
theorem dX9_can_7 : decode cX9_can 7 = .ok (.istore_n 2, 1) := by decide +kernel
theorem dX9_can_8 : decode cX9_can 8 = .ok (.iload_n 2, 1) := by decide +kernel
theorem dX9_can_9 : decode cX9_can 9 = .ok (.ifCond .eq 9, 3) := by decide +kernel
theorem dX9_can_12 : decode cX9_can 12 = .ok (.aload_n 0, 1) := by decide +kernel
theorem dX9_can_13 : decode cX9_can 13 = .ok (.iload_n 2, 1) := by decide +kernel
theorem dX9_can_14 : decode cX9_can 14 = .ok (.invokevirtual 79, 3) := by decide +kernel
theorem dX9_can_17 : decode cX9_can 17 = .ok (.ireturn, 1) := by decide +kernel
theorem dX9_can_18 : decode cX9_can 18 = .ok (.iconst 0, 1) := by decide +kernel
theorem dX9_can_19 : decode cX9_can 19 = .ok (.istore_n 3, 1) := by decide +kernel
theorem dX9_can_20 : decode cX9_can 20 = .ok (.iconst 0, 1) := by decide +kernel
theorem dX9_can_21 : decode cX9_can 21 = .ok (.istore 4, 2) := by decide +kernel
theorem dX9_can_23 : decode cX9_can 23 = .ok (.iload 4, 2) := by decide +kernel
theorem dX9_can_25 : decode cX9_can 25 = .ok (.iconst 4, 1) := by decide +kernel
theorem dX9_can_26 : decode cX9_can 26 = .ok (.if_icmp .ge 30, 3) := by decide +kernel
theorem dX9_can_29 : decode cX9_can 29 = .ok (.iload_n 3, 1) := by decide +kernel
theorem dX9_can_30 : decode cX9_can 30 = .ok (.aload_n 0, 1) := by decide +kernel
theorem dX9_can_31 : decode cX9_can 31 = .ok (.iload 4, 2) := by decide +kernel
theorem dX9_can_33 : decode cX9_can 33 = .ok (.iload_n 1, 1) := by decide +kernel
theorem dX9_can_34 : decode cX9_can 34 = .ok (.invokevirtual 199, 3) := by decide +kernel
theorem dX9_can_37 : decode cX9_can 37 = .ok (.ifCond .lt 10, 3) := by decide +kernel
theorem dX9_can_40 : decode cX9_can 40 = .ok (.iconst 1, 1) := by decide +kernel
theorem dX9_can_41 : decode cX9_can 41 = .ok (.iload 4, 2) := by decide +kernel
theorem dX9_can_43 : decode cX9_can 43 = .ok (.ishl, 1) := by decide +kernel
theorem dX9_can_44 : decode cX9_can 44 = .ok (.goto 4, 3) := by decide +kernel
theorem dX9_can_47 : decode cX9_can 47 = .ok (.iconst 0, 1) := by decide +kernel
theorem dX9_can_48 : decode cX9_can 48 = .ok (.ior, 1) := by decide +kernel
theorem dX9_can_49 : decode cX9_can 49 = .ok (.istore_n 3, 1) := by decide +kernel
theorem dX9_can_50 : decode cX9_can 50 = .ok (.iinc 4 1, 3) := by decide +kernel
theorem dX9_can_53 : decode cX9_can 53 = .ok (.goto (-30), 3) := by decide +kernel
theorem dX9_can_56 : decode cX9_can 56 = .ok (.iload_n 3, 1) := by decide +kernel
theorem dX9_can_57 : decode cX9_can 57 = .ok (.ireturn, 1) := by decide +kernel
theorem dX9_row_0 : decode cX9_row 0 = .ok (.iload_n 1, 1) := by decide +kernel
theorem dX9_row_1 : decode cX9_row 1 = .ok (.iconst 0, 1) := by decide +kernel
theorem dX9_row_2 : decode cX9_row 2 = .ok (.bipush 99, 2) := by decide +kernel
theorem dX9_row_4 : decode cX9_row 4 = .ok (.invokestatic 72, 3) := by decide +kernel
theorem dX9_row_7 : decode cX9_row 7 = .ok (.istore_n 2, 1) := by decide +kernel
theorem dX9_row_8 : decode cX9_row 8 = .ok (.iload_n 2, 1) := by decide +kernel
theorem dX9_row_9 : decode cX9_row 9 = .ok (.ifCond .ne 15, 3) := by decide +kernel
theorem dX9_row_12 : decode cX9_row 12 = .ok (.aload_n 0, 1) := by decide +kernel
theorem dX9_row_13 : decode cX9_row 13 = .ok (.getfield 268, 3) := by decide +kernel
theorem dX9_row_16 : decode cX9_row 16 = .ok (.bipush 12, 2) := by decide +kernel
theorem dX9_row_18 : decode cX9_row 18 = .ok (.if_icmp .ne 6, 3) := by decide +kernel
theorem dX9_row_21 : decode cX9_row 21 = .ok (.bipush (-6), 2) := by decide +kernel
theorem dX9_row_23 : decode cX9_row 23 = .ok (.istore_n 2, 1) := by decide +kernel
theorem dX9_row_24 : decode cX9_row 24 = .ok (.iload_n 2, 1) := by decide +kernel
theorem dX9_row_25 : decode cX9_row 25 = .ok (.ifCond .eq 9, 3) := by decide +kernel
theorem dX9_row_28 : decode cX9_row 28 = .ok (.aload_n 0, 1) := by decide +kernel
theorem dX9_row_29 : decode cX9_row 29 = .ok (.iload_n 2, 1) := by decide +kernel
theorem dX9_row_30 : decode cX9_row 30 = .ok (.invokevirtual 79, 3) := by decide +kernel
theorem dX9_row_33 : decode cX9_row 33 = .ok (.ireturn, 1) := by decide +kernel
theorem dX9_row_34 : decode cX9_row 34 = .ok (.aload_n 0, 1) := by decide +kernel
theorem dX9_row_35 : decode cX9_row 35 = .ok (.getfield 55, 3) := by decide +kernel
theorem dX9_row_38 : decode cX9_row 38 = .ok (.aload_n 0, 1) := by decide +kernel
theorem dX9_row_39 : decode cX9_row 39 = .ok (.getfield 268, 3) := by decide +kernel
theorem dX9_row_42 : decode cX9_row 42 = .ok (.iload_n 1, 1) := by decide +kernel
theorem dX9_row_43 : decode cX9_row 43 = .ok (.iastore, 1) := by decide +kernel
theorem dX9_row_44 : decode cX9_row 44 = .ok (.aload_n 0, 1) := by decide +kernel
theorem dX9_row_45 : decode cX9_row 45 = .ok (.dup, 1) := by decide +kernel
theorem dX9_row_46 : decode cX9_row 46 = .ok (.getfield 268, 3) := by decide +kernel
theorem dX9_row_49 : decode cX9_row 49 = .ok (.iconst 1, 1) := by decide +kernel
theorem dX9_row_50 : decode cX9_row 50 = .ok (.iadd, 1) := by decide +kernel
theorem dX9_row_51 : decode cX9_row 51 = .ok (.putfield 268, 3) := by decide +kernel
theorem dX9_row_54 : decode cX9_row 54 = .ok (.aload_n 0, 1) := by decide +kernel
theorem dX9_row_55 : decode cX9_row 55 = .ok (.getfield 268, 3) := by decide +kernel
theorem dX9_row_58 : decode cX9_row 58 = .ok (.ireturn, 1) := by decide +kernel
theorem dX9_judge_0 : decode cX9_judge 0 = .ok (.aload_n 0, 1) := by decide +kernel
theorem dX9_judge_1 : decode cX9_judge 1 = .ok (.iload_n 1, 1) := by decide +kernel
theorem dX9_judge_2 : decode cX9_judge 2 = .ok (.invokevirtual 68, 3) := by decide +kernel
theorem dX9_judge_5 : decode cX9_judge 5 = .ok (.ifCond .ne 9, 3) := by decide +kernel
theorem dX9_judge_8 : decode cX9_judge 8 = .ok (.aload_n 0, 1) := by decide +kernel
theorem dX9_judge_9 : decode cX9_judge 9 = .ok (.iconst (-1), 1) := by decide +kernel
theorem dX9_judge_10 : decode cX9_judge 10 = .ok (.invokevirtual 79, 3) := by decide +kernel
theorem dX9_judge_13 : decode cX9_judge 13 = .ok (.ireturn, 1) := by decide +kernel
theorem dX9_judge_14 : decode cX9_judge 14 = .ok (.aload_n 0, 1) := by decide +kernel
theorem dX9_judge_15 : decode cX9_judge 15 = .ok (.getfield 268, 3) := by decide +kernel
theorem dX9_judge_18 : decode cX9_judge 18 = .ok (.istore_n 2, 1) := by decide +kernel
theorem dX9_judge_19 : decode cX9_judge 19 = .ok (.aload_n 0, 1) := by decide +kernel
theorem dX9_judge_20 : decode cX9_judge 20 = .ok (.iconst 0, 1) := by decide +kernel
theorem dX9_judge_21 : decode cX9_judge 21 = .ok (.putfield 268, 3) := by decide +kernel
theorem dX9_judge_24 : decode cX9_judge 24 = .ok (.iconst 0, 1) := by decide +kernel
theorem dX9_judge_25 : decode cX9_judge 25 = .ok (.istore_n 3, 1) := by decide +kernel
theorem dX9_judge_26 : decode cX9_judge 26 = .ok (.iload_n 3, 1) := by decide +kernel
theorem dX9_judge_27 : decode cX9_judge 27 = .ok (.iload_n 2, 1) := by decide +kernel
theorem dX9_judge_28 : decode cX9_judge 28 = .ok (.if_icmp .ge 43, 3) := by decide +kernel
theorem dX9_judge_31 : decode cX9_judge 31 = .ok (.iload_n 3, 1) := by decide +kernel
theorem dX9_judge_32 : decode cX9_judge 32 = .ok (.aload_n 0, 1) := by decide +kernel
theorem dX9_judge_33 : decode cX9_judge 33 = .ok (.getfield 65, 3) := by decide +kernel
theorem dX9_judge_36 : decode cX9_judge 36 = .ok (.if_icmp .ge 27, 3) := by decide +kernel
theorem dX9_judge_39 : decode cX9_judge 39 = .ok (.iload_n 3, 1) := by decide +kernel
theorem dX9_judge_40 : decode cX9_judge 40 = .ok (.iload_n 1, 1) := by decide +kernel
theorem dX9_judge_41 : decode cX9_judge 41 = .ok (.if_icmp .ne 7, 3) := by decide +kernel
theorem dX9_judge_44 : decode cX9_judge 44 = .ok (.iconst 0, 1) := by decide +kernel
theorem dX9_judge_45 : decode cX9_judge 45 = .ok (.goto 9, 3) := by decide +kernel
theorem dX9_judge_48 : decode cX9_judge 48 = .ok (.aload_n 0, 1) := by decide +kernel
theorem dX9_judge_49 : decode cX9_judge 49 = .ok (.iload_n 1, 1) := by decide +kernel
theorem dX9_judge_50 : decode cX9_judge 50 = .ok (.iload_n 3, 1) := by decide +kernel
theorem dX9_judge_51 : decode cX9_judge 51 = .ok (.invokevirtual 180, 3) := by decide +kernel
theorem dX9_judge_54 : decode cX9_judge 54 = .ok (.aload_n 0, 1) := by decide +kernel
theorem dX9_judge_55 : decode cX9_judge 55 = .ok (.getfield 55, 3) := by decide +kernel
theorem dX9_judge_58 : decode cX9_judge 58 = .ok (.iload_n 3, 1) := by decide +kernel
theorem dX9_judge_59 : decode cX9_judge 59 = .ok (.iaload, 1) := by decide +kernel
theorem dX9_judge_60 : decode cX9_judge 60 = .ok (.if_icmp .eq 5, 3) := by decide +kernel
theorem dX9_judge_63 : decode cX9_judge 63 = .ok (.iload_n 3, 1) := by decide +kernel
theorem dX9_judge_64 : decode cX9_judge 64 = .ok (.ireturn, 1) := by decide +kernel
theorem dX9_judge_65 : decode cX9_judge 65 = .ok (.iinc 3 1, 3) := by decide +kernel
theorem dX9_judge_68 : decode cX9_judge 68 = .ok (.goto (-42), 3) := by decide +kernel
theorem dX9_judge_71 : decode cX9_judge 71 = .ok (.bipush (-9), 2) := by decide +kernel
theorem dX9_judge_73 : decode cX9_judge 73 = .ok (.ireturn, 1) := by decide +kernel
theorem dX9_clear_0 : decode cX9_clear 0 = .ok (.aload_n 0, 1) := by decide +kernel
theorem dX9_clear_1 : decode cX9_clear 1 = .ok (.getfield 268, 3) := by decide +kernel
theorem dX9_clear_4 : decode cX9_clear 4 = .ok (.istore_n 1, 1) := by decide +kernel
theorem dX9_clear_5 : decode cX9_clear 5 = .ok (.aload_n 0, 1) := by decide +kernel
theorem dX9_clear_6 : decode cX9_clear 6 = .ok (.iconst 0, 1) := by decide +kernel
theorem dX9_clear_7 : decode cX9_clear 7 = .ok (.putfield 268, 3) := by decide +kernel
theorem dX9_clear_10 : decode cX9_clear 10 = .ok (.iload_n 1, 1) := by decide +kernel
theorem dX9_clear_11 : decode cX9_clear 11 = .ok (.ireturn, 1) := by decide +kernel
theorem dX9_draw_0 : decode cX9_draw 0 = .ok (.aload_n 0, 1) := by decide +kernel
theorem dX9_draw_1 : decode cX9_draw 1 = .ok (.aload_n 0, 1) := by decide +kernel
theorem dX9_draw_2 : decode cX9_draw 2 = .ok (.getfield 318, 3) := by decide +kernel
theorem dX9_draw_5 : decode cX9_draw 5 = .ok (.ldc_w 321, 3) := by decide +kernel
theorem dX9_draw_8 : decode cX9_draw 8 = .ok (.imul, 1) := by decide +kernel
theorem dX9_draw_9 : decode cX9_draw 9 = .ok (.sipush 12345, 3) := by decide +kernel
theorem dX9_draw_12 : decode cX9_draw 12 = .ok (.iadd, 1) := by decide +kernel
theorem dX9_draw_13 : decode cX9_draw 13 = .ok (.putfield 318, 3) := by decide +kernel
theorem dX9_draw_16 : decode cX9_draw 16 = .ok (.aload_n 0, 1) := by decide +kernel
theorem dX9_draw_17 : decode cX9_draw 17 = .ok (.getfield 318, 3) := by decide +kernel
theorem dX9_draw_20 : decode cX9_draw 20 = .ok (.ldc_w 322, 3) := by decide +kernel
theorem dX9_draw_23 : decode cX9_draw 23 = .ok (.iand, 1) := by decide +kernel
theorem dX9_draw_24 : decode cX9_draw 24 = .ok (.ldc_w 323, 3) := by decide +kernel
theorem dX9_draw_27 : decode cX9_draw 27 = .ok (.idiv, 1) := by decide +kernel
theorem dX9_draw_28 : decode cX9_draw 28 = .ok (.iload_n 1, 1) := by decide +kernel
theorem dX9_draw_29 : decode cX9_draw 29 = .ok (.irem, 1) := by decide +kernel
theorem dX9_draw_30 : decode cX9_draw 30 = .ok (.ireturn, 1) := by decide +kernel
theorem dX9_lots_0 : decode cX9_lots 0 = .ok (.iload_n 1, 1) := by decide +kernel
theorem dX9_lots_1 : decode cX9_lots 1 = .ok (.iconst 1, 1) := by decide +kernel
theorem dX9_lots_2 : decode cX9_lots 2 = .ok (.bipush 20, 2) := by decide +kernel
theorem dX9_lots_4 : decode cX9_lots 4 = .ok (.invokestatic 72, 3) := by decide +kernel
theorem dX9_lots_7 : decode cX9_lots 7 = .ok (.istore 4, 2) := by decide +kernel
theorem dX9_lots_9 : decode cX9_lots 9 = .ok (.iload 4, 2) := by decide +kernel
theorem dX9_lots_11 : decode cX9_lots 11 = .ok (.ifCond .ne 16, 3) := by decide +kernel
theorem dX9_lots_14 : decode cX9_lots 14 = .ok (.iload_n 3, 1) := by decide +kernel
theorem dX9_lots_15 : decode cX9_lots 15 = .ok (.iconst 0, 1) := by decide +kernel
theorem dX9_lots_16 : decode cX9_lots 16 = .ok (.iconst 1, 1) := by decide +kernel
theorem dX9_lots_17 : decode cX9_lots 17 = .ok (.invokestatic 90, 3) := by decide +kernel
theorem dX9_lots_20 : decode cX9_lots 20 = .ok (.ifCond .ne 7, 3) := by decide +kernel
theorem dX9_lots_23 : decode cX9_lots 23 = .ok (.bipush (-2), 2) := by decide +kernel
theorem dX9_lots_25 : decode cX9_lots 25 = .ok (.istore 4, 2) := by decide +kernel
theorem dX9_lots_27 : decode cX9_lots 27 = .ok (.iload 4, 2) := by decide +kernel
theorem dX9_lots_29 : decode cX9_lots 29 = .ok (.ifCond .eq 10, 3) := by decide +kernel
theorem dX9_lots_32 : decode cX9_lots 32 = .ok (.aload_n 0, 1) := by decide +kernel
theorem dX9_lots_33 : decode cX9_lots 33 = .ok (.iload 4, 2) := by decide +kernel
theorem dX9_lots_35 : decode cX9_lots 35 = .ok (.invokevirtual 79, 3) := by decide +kernel
theorem dX9_lots_38 : decode cX9_lots 38 = .ok (.ireturn, 1) := by decide +kernel
theorem dX9_lots_39 : decode cX9_lots 39 = .ok (.aload_n 0, 1) := by decide +kernel
theorem dX9_lots_40 : decode cX9_lots 40 = .ok (.iload_n 2, 1) := by decide +kernel
theorem dX9_lots_41 : decode cX9_lots 41 = .ok (.putfield 318, 3) := by decide +kernel
theorem dX9_lots_44 : decode cX9_lots 44 = .ok (.iconst 0, 1) := by decide +kernel
theorem dX9_lots_45 : decode cX9_lots 45 = .ok (.istore 5, 2) := by decide +kernel
theorem dX9_lots_47 : decode cX9_lots 47 = .ok (.aload_n 0, 1) := by decide +kernel
theorem dX9_lots_48 : decode cX9_lots 48 = .ok (.invokevirtual 211, 3) := by decide +kernel
theorem dX9_lots_51 : decode cX9_lots 51 = .ok (.invokestatic 214, 3) := by decide +kernel
theorem dX9_lots_54 : decode cX9_lots 54 = .ok (.istore 6, 2) := by decide +kernel
theorem dX9_lots_56 : decode cX9_lots 56 = .ok (.iconst 0, 1) := by decide +kernel
theorem dX9_lots_57 : decode cX9_lots 57 = .ok (.istore 7, 2) := by decide +kernel
theorem dX9_lots_59 : decode cX9_lots 59 = .ok (.iload 7, 2) := by decide +kernel
theorem dX9_lots_61 : decode cX9_lots 61 = .ok (.iload_n 1, 1) := by decide +kernel
theorem dX9_lots_62 : decode cX9_lots 62 = .ok (.if_icmp .ge 102, 3) := by decide +kernel
theorem dX9_lots_65 : decode cX9_lots 65 = .ok (.aload_n 0, 1) := by decide +kernel
theorem dX9_lots_66 : decode cX9_lots 66 = .ok (.invokevirtual 217, 3) := by decide +kernel
theorem dX9_lots_69 : decode cX9_lots 69 = .ok (.iconst 0, 1) := by decide +kernel
theorem dX9_lots_70 : decode cX9_lots 70 = .ok (.istore 8, 2) := by decide +kernel
theorem dX9_lots_72 : decode cX9_lots 72 = .ok (.iload 8, 2) := by decide +kernel
theorem dX9_lots_74 : decode cX9_lots 74 = .ok (.aload_n 0, 1) := by decide +kernel
theorem dX9_lots_75 : decode cX9_lots 75 = .ok (.getfield 65, 3) := by decide +kernel
theorem dX9_lots_78 : decode cX9_lots 78 = .ok (.if_icmp .ge 44, 3) := by decide +kernel
theorem dX9_lots_81 : decode cX9_lots 81 = .ok (.iload 8, 2) := by decide +kernel
theorem dX9_lots_83 : decode cX9_lots 83 = .ok (.iconst 1, 1) := by decide +kernel
theorem dX9_lots_84 : decode cX9_lots 84 = .ok (.iadd, 1) := by decide +kernel
theorem dX9_lots_85 : decode cX9_lots 85 = .ok (.istore 9, 2) := by decide +kernel
theorem dX9_lots_87 : decode cX9_lots 87 = .ok (.iload 9, 2) := by decide +kernel
theorem dX9_lots_89 : decode cX9_lots 89 = .ok (.aload_n 0, 1) := by decide +kernel
theorem dX9_lots_90 : decode cX9_lots 90 = .ok (.getfield 65, 3) := by decide +kernel
theorem dX9_lots_93 : decode cX9_lots 93 = .ok (.if_icmp .ge 23, 3) := by decide +kernel
theorem dX9_lots_96 : decode cX9_lots 96 = .ok (.aload_n 0, 1) := by decide +kernel
theorem dX9_lots_97 : decode cX9_lots 97 = .ok (.iload 8, 2) := by decide +kernel
theorem dX9_lots_99 : decode cX9_lots 99 = .ok (.iload 9, 2) := by decide +kernel
theorem dX9_lots_101 : decode cX9_lots 101 = .ok (.aload_n 0, 1) := by decide +kernel
theorem dX9_lots_102 : decode cX9_lots 102 = .ok (.bipush 60, 2) := by decide +kernel
theorem dX9_lots_104 : decode cX9_lots 104 = .ok (.invokevirtual 324, 3) := by decide +kernel
theorem dX9_lots_107 : decode cX9_lots 107 = .ok (.invokevirtual 128, 3) := by decide +kernel
theorem dX9_lots_110 : decode cX9_lots 110 = .ok (.iinc 9 1, 3) := by decide +kernel
theorem dX9_lots_113 : decode cX9_lots 113 = .ok (.goto (-26), 3) := by decide +kernel
theorem dX9_lots_116 : decode cX9_lots 116 = .ok (.iinc 8 1, 3) := by decide +kernel
theorem dX9_lots_119 : decode cX9_lots 119 = .ok (.goto (-47), 3) := by decide +kernel
theorem dX9_lots_122 : decode cX9_lots 122 = .ok (.aload_n 0, 1) := by decide +kernel
theorem dX9_lots_123 : decode cX9_lots 123 = .ok (.bipush 10, 2) := by decide +kernel
theorem dX9_lots_125 : decode cX9_lots 125 = .ok (.invokevirtual 118, 3) := by decide +kernel
theorem dX9_lots_128 : decode cX9_lots 128 = .ok (.iload 5, 2) := by decide +kernel
theorem dX9_lots_130 : decode cX9_lots 130 = .ok (.iload_n 3, 1) := by decide +kernel
theorem dX9_lots_131 : decode cX9_lots 131 = .ok (.ifCond .ne 16, 3) := by decide +kernel
theorem dX9_lots_134 : decode cX9_lots 134 = .ok (.aload_n 0, 1) := by decide +kernel
theorem dX9_lots_135 : decode cX9_lots 135 = .ok (.invokevirtual 211, 3) := by decide +kernel
theorem dX9_lots_138 : decode cX9_lots 138 = .ok (.invokestatic 214, 3) := by decide +kernel
theorem dX9_lots_141 : decode cX9_lots 141 = .ok (.iload 6, 2) := by decide +kernel
theorem dX9_lots_143 : decode cX9_lots 143 = .ok (.isub, 1) := by decide +kernel
theorem dX9_lots_144 : decode cX9_lots 144 = .ok (.goto 7, 3) := by decide +kernel
theorem dX9_lots_147 : decode cX9_lots 147 = .ok (.aload_n 0, 1) := by decide +kernel
theorem dX9_lots_148 : decode cX9_lots 148 = .ok (.invokevirtual 232, 3) := by decide +kernel
theorem dX9_lots_151 : decode cX9_lots 151 = .ok (.iadd, 1) := by decide +kernel
theorem dX9_lots_152 : decode cX9_lots 152 = .ok (.istore 5, 2) := by decide +kernel
theorem dX9_lots_154 : decode cX9_lots 154 = .ok (.aload_n 0, 1) := by decide +kernel
theorem dX9_lots_155 : decode cX9_lots 155 = .ok (.invokevirtual 220, 3) := by decide +kernel
theorem dX9_lots_158 : decode cX9_lots 158 = .ok (.iinc 7 1, 3) := by decide +kernel
theorem dX9_lots_161 : decode cX9_lots 161 = .ok (.goto (-102), 3) := by decide +kernel
theorem dX9_lots_164 : decode cX9_lots 164 = .ok (.iload 5, 2) := by decide +kernel
theorem dX9_lots_166 : decode cX9_lots 166 = .ok (.ireturn, 1) := by decide +kernel
theorem dX9_count_0 : decode cX9_count 0 = .ok (.iload_n 1, 1) := by decide +kernel
theorem dX9_count_1 : decode cX9_count 1 = .ok (.bipush 11, 2) := by decide +kernel
theorem dX9_count_3 : decode cX9_count 3 = .ok (.bipush 16, 2) := by decide +kernel
theorem dX9_count_5 : decode cX9_count 5 = .ok (.invokestatic 90, 3) := by decide +kernel
theorem dX9_count_8 : decode cX9_count 8 = .ok (.ifCond .eq 13, 3) := by decide +kernel
theorem dX9_count_11 : decode cX9_count 11 = .ok (.aload_n 0, 1) := by decide +kernel
theorem dX9_count_12 : decode cX9_count 12 = .ok (.getfield 7, 3) := by decide +kernel
theorem dX9_count_15 : decode cX9_count 15 = .ok (.iload_n 1, 1) := by decide +kernel
theorem dX9_count_16 : decode cX9_count 16 = .ok (.bipush 10, 2) := by decide +kernel
theorem dX9_count_18 : decode cX9_count 18 = .ok (.isub, 1) := by decide +kernel
theorem dX9_count_19 : decode cX9_count 19 = .ok (.iaload, 1) := by decide +kernel
theorem dX9_count_20 : decode cX9_count 20 = .ok (.ireturn, 1) := by decide +kernel
theorem dX9_count_21 : decode cX9_count 21 = .ok (.iload_n 1, 1) := by decide +kernel
theorem dX9_count_22 : decode cX9_count 22 = .ok (.tableswitch 86 0 7 #[46, 51, 56, 61, 66, 71, 76, 81], 46) := by decide +kernel
theorem dX9_count_68 : decode cX9_count 68 = .ok (.aload_n 0, 1) := by decide +kernel
theorem dX9_count_69 : decode cX9_count 69 = .ok (.getfield 65, 3) := by decide +kernel
theorem dX9_count_72 : decode cX9_count 72 = .ok (.ireturn, 1) := by decide +kernel
theorem dX9_count_73 : decode cX9_count 73 = .ok (.aload_n 0, 1) := by decide +kernel
theorem dX9_count_74 : decode cX9_count 74 = .ok (.getfield 58, 3) := by decide +kernel
theorem dX9_count_77 : decode cX9_count 77 = .ok (.ireturn, 1) := by decide +kernel
theorem dX9_count_78 : decode cX9_count 78 = .ok (.aload_n 0, 1) := by decide +kernel
theorem dX9_count_79 : decode cX9_count 79 = .ok (.getfield 115, 3) := by decide +kernel
theorem dX9_count_82 : decode cX9_count 82 = .ok (.ireturn, 1) := by decide +kernel
theorem dX9_count_83 : decode cX9_count 83 = .ok (.aload_n 0, 1) := by decide +kernel
theorem dX9_count_84 : decode cX9_count 84 = .ok (.invokevirtual 211, 3) := by decide +kernel
theorem dX9_count_87 : decode cX9_count 87 = .ok (.ireturn, 1) := by decide +kernel
theorem dX9_count_88 : decode cX9_count 88 = .ok (.aload_n 0, 1) := by decide +kernel
theorem dX9_count_89 : decode cX9_count 89 = .ok (.invokevirtual 232, 3) := by decide +kernel
theorem dX9_count_92 : decode cX9_count 92 = .ok (.ireturn, 1) := by decide +kernel
theorem dX9_count_93 : decode cX9_count 93 = .ok (.aload_n 0, 1) := by decide +kernel
theorem dX9_count_94 : decode cX9_count 94 = .ok (.getfield 76, 3) := by decide +kernel
theorem dX9_count_97 : decode cX9_count 97 = .ok (.ireturn, 1) := by decide +kernel
theorem dX9_count_98 : decode cX9_count 98 = .ok (.aload_n 0, 1) := by decide +kernel
theorem dX9_count_99 : decode cX9_count 99 = .ok (.getfield 268, 3) := by decide +kernel
theorem dX9_count_102 : decode cX9_count 102 = .ok (.ireturn, 1) := by decide +kernel
theorem dX9_count_103 : decode cX9_count 103 = .ok (.aload_n 0, 1) := by decide +kernel
theorem dX9_count_104 : decode cX9_count 104 = .ok (.getfield 151, 3) := by decide +kernel
theorem dX9_count_107 : decode cX9_count 107 = .ok (.ireturn, 1) := by decide +kernel
theorem dX9_count_108 : decode cX9_count 108 = .ok (.bipush (-9), 2) := by decide +kernel
theorem dX9_count_110 : decode cX9_count 110 = .ok (.ireturn, 1) := by decide +kernel
theorem dJ6_bitCount_0f7a4_0 : decode cJ6_bitCount_0f7a4 0 = .ok (.iload_n 0, 1) := by decide +kernel
theorem dJ6_bitCount_0f7a4_1 : decode cJ6_bitCount_0f7a4 1 = .ok (.iload_n 0, 1) := by decide +kernel
theorem dJ6_bitCount_0f7a4_2 : decode cJ6_bitCount_0f7a4 2 = .ok (.iconst 1, 1) := by decide +kernel
theorem dJ6_bitCount_0f7a4_3 : decode cJ6_bitCount_0f7a4 3 = .ok (.iushr, 1) := by decide +kernel
theorem dJ6_bitCount_0f7a4_4 : decode cJ6_bitCount_0f7a4 4 = .ok (.ldc_w 265, 3) := by decide +kernel
theorem dJ6_bitCount_0f7a4_7 : decode cJ6_bitCount_0f7a4 7 = .ok (.iand, 1) := by decide +kernel
theorem dJ6_bitCount_0f7a4_8 : decode cJ6_bitCount_0f7a4 8 = .ok (.isub, 1) := by decide +kernel
theorem dJ6_bitCount_0f7a4_9 : decode cJ6_bitCount_0f7a4 9 = .ok (.istore_n 0, 1) := by decide +kernel
theorem dJ6_bitCount_0f7a4_10 : decode cJ6_bitCount_0f7a4 10 = .ok (.iload_n 0, 1) := by decide +kernel
theorem dJ6_bitCount_0f7a4_11 : decode cJ6_bitCount_0f7a4 11 = .ok (.ldc_w 266, 3) := by decide +kernel
theorem dJ6_bitCount_0f7a4_14 : decode cJ6_bitCount_0f7a4 14 = .ok (.iand, 1) := by decide +kernel
theorem dJ6_bitCount_0f7a4_15 : decode cJ6_bitCount_0f7a4 15 = .ok (.iload_n 0, 1) := by decide +kernel
theorem dJ6_bitCount_0f7a4_16 : decode cJ6_bitCount_0f7a4 16 = .ok (.iconst 2, 1) := by decide +kernel
theorem dJ6_bitCount_0f7a4_17 : decode cJ6_bitCount_0f7a4 17 = .ok (.iushr, 1) := by decide +kernel
theorem dJ6_bitCount_0f7a4_18 : decode cJ6_bitCount_0f7a4 18 = .ok (.ldc_w 266, 3) := by decide +kernel
theorem dJ6_bitCount_0f7a4_21 : decode cJ6_bitCount_0f7a4 21 = .ok (.iand, 1) := by decide +kernel
theorem dJ6_bitCount_0f7a4_22 : decode cJ6_bitCount_0f7a4 22 = .ok (.iadd, 1) := by decide +kernel
theorem dJ6_bitCount_0f7a4_23 : decode cJ6_bitCount_0f7a4 23 = .ok (.istore_n 0, 1) := by decide +kernel
theorem dJ6_bitCount_0f7a4_24 : decode cJ6_bitCount_0f7a4 24 = .ok (.iload_n 0, 1) := by decide +kernel
theorem dJ6_bitCount_0f7a4_25 : decode cJ6_bitCount_0f7a4 25 = .ok (.iload_n 0, 1) := by decide +kernel
theorem dJ6_bitCount_0f7a4_26 : decode cJ6_bitCount_0f7a4 26 = .ok (.iconst 4, 1) := by decide +kernel
theorem dJ6_bitCount_0f7a4_27 : decode cJ6_bitCount_0f7a4 27 = .ok (.iushr, 1) := by decide +kernel
theorem dJ6_bitCount_0f7a4_28 : decode cJ6_bitCount_0f7a4 28 = .ok (.iadd, 1) := by decide +kernel
theorem dJ6_bitCount_0f7a4_29 : decode cJ6_bitCount_0f7a4 29 = .ok (.ldc_w 267, 3) := by decide +kernel
theorem dJ6_bitCount_0f7a4_32 : decode cJ6_bitCount_0f7a4 32 = .ok (.iand, 1) := by decide +kernel
theorem dJ6_bitCount_0f7a4_33 : decode cJ6_bitCount_0f7a4 33 = .ok (.istore_n 0, 1) := by decide +kernel
theorem dJ6_bitCount_0f7a4_34 : decode cJ6_bitCount_0f7a4 34 = .ok (.iload_n 0, 1) := by decide +kernel
theorem dJ6_bitCount_0f7a4_35 : decode cJ6_bitCount_0f7a4 35 = .ok (.iload_n 0, 1) := by decide +kernel
theorem dJ6_bitCount_0f7a4_36 : decode cJ6_bitCount_0f7a4 36 = .ok (.bipush 8, 2) := by decide +kernel
theorem dJ6_bitCount_0f7a4_38 : decode cJ6_bitCount_0f7a4 38 = .ok (.iushr, 1) := by decide +kernel
theorem dJ6_bitCount_0f7a4_39 : decode cJ6_bitCount_0f7a4 39 = .ok (.iadd, 1) := by decide +kernel
theorem dJ6_bitCount_0f7a4_40 : decode cJ6_bitCount_0f7a4 40 = .ok (.istore_n 0, 1) := by decide +kernel
theorem dJ6_bitCount_0f7a4_41 : decode cJ6_bitCount_0f7a4 41 = .ok (.iload_n 0, 1) := by decide +kernel
theorem dJ6_bitCount_0f7a4_42 : decode cJ6_bitCount_0f7a4 42 = .ok (.iload_n 0, 1) := by decide +kernel
theorem dJ6_bitCount_0f7a4_43 : decode cJ6_bitCount_0f7a4 43 = .ok (.bipush 16, 2) := by decide +kernel
theorem dJ6_bitCount_0f7a4_45 : decode cJ6_bitCount_0f7a4 45 = .ok (.iushr, 1) := by decide +kernel
theorem dJ6_bitCount_0f7a4_46 : decode cJ6_bitCount_0f7a4 46 = .ok (.iadd, 1) := by decide +kernel
theorem dJ6_bitCount_0f7a4_47 : decode cJ6_bitCount_0f7a4 47 = .ok (.istore_n 0, 1) := by decide +kernel
theorem dJ6_bitCount_0f7a4_48 : decode cJ6_bitCount_0f7a4 48 = .ok (.iload_n 0, 1) := by decide +kernel
theorem dJ6_bitCount_0f7a4_49 : decode cJ6_bitCount_0f7a4 49 = .ok (.bipush 63, 2) := by decide +kernel
theorem dJ6_bitCount_0f7a4_51 : decode cJ6_bitCount_0f7a4 51 = .ok (.iand, 1) := by decide +kernel
theorem dJ6_bitCount_0f7a4_52 : decode cJ6_bitCount_0f7a4 52 = .ok (.ireturn, 1) := by decide +kernel
theorem dJ9_max_7cf53_0 : decode cJ9_max_7cf53 0 = .ok (.iload_n 0, 1) := by decide +kernel
theorem dJ9_max_7cf53_1 : decode cJ9_max_7cf53 1 = .ok (.iload_n 1, 1) := by decide +kernel
theorem dJ9_max_7cf53_2 : decode cJ9_max_7cf53 2 = .ok (.if_icmp .lt 7, 3) := by decide +kernel
theorem dJ9_max_7cf53_5 : decode cJ9_max_7cf53 5 = .ok (.iload_n 0, 1) := by decide +kernel
theorem dJ9_max_7cf53_6 : decode cJ9_max_7cf53 6 = .ok (.goto 4, 3) := by decide +kernel
theorem dJ9_max_7cf53_9 : decode cJ9_max_7cf53 9 = .ok (.iload_n 1, 1) := by decide +kernel
theorem dJ9_max_7cf53_10 : decode cJ9_max_7cf53 10 = .ok (.ireturn, 1) := by decide +kernel
theorem dJ9_min_7cf53_0 : decode cJ9_min_7cf53 0 = .ok (.iload_n 0, 1) := by decide +kernel
theorem dJ9_min_7cf53_1 : decode cJ9_min_7cf53 1 = .ok (.iload_n 1, 1) := by decide +kernel
theorem dJ9_min_7cf53_2 : decode cJ9_min_7cf53 2 = .ok (.if_icmp .gt 7, 3) := by decide +kernel
theorem dJ9_min_7cf53_5 : decode cJ9_min_7cf53 5 = .ok (.iload_n 0, 1) := by decide +kernel
theorem dJ9_min_7cf53_6 : decode cJ9_min_7cf53 6 = .ok (.goto 4, 3) := by decide +kernel
theorem dJ9_min_7cf53_9 : decode cJ9_min_7cf53 9 = .ok (.iload_n 1, 1) := by decide +kernel
theorem dJ9_min_7cf53_10 : decode cJ9_min_7cf53 10 = .ok (.ireturn, 1) := by decide +kernel
theorem dJ7_fill_53178_0 : decode cJ7_fill_53178 0 = .ok (.iconst 0, 1) := by decide +kernel
theorem dJ7_fill_53178_1 : decode cJ7_fill_53178 1 = .ok (.istore_n 2, 1) := by decide +kernel
theorem dJ7_fill_53178_2 : decode cJ7_fill_53178 2 = .ok (.aload_n 0, 1) := by decide +kernel
theorem dJ7_fill_53178_3 : decode cJ7_fill_53178 3 = .ok (.arraylength, 1) := by decide +kernel
theorem dJ7_fill_53178_4 : decode cJ7_fill_53178 4 = .ok (.istore_n 3, 1) := by decide +kernel
theorem dJ7_fill_53178_5 : decode cJ7_fill_53178 5 = .ok (.iload_n 2, 1) := by decide +kernel
theorem dJ7_fill_53178_6 : decode cJ7_fill_53178 6 = .ok (.iload_n 3, 1) := by decide +kernel
theorem dJ7_fill_53178_7 : decode cJ7_fill_53178 7 = .ok (.if_icmp .ge 13, 3) := by decide +kernel
theorem dJ7_fill_53178_10 : decode cJ7_fill_53178 10 = .ok (.aload_n 0, 1) := by decide +kernel
theorem dJ7_fill_53178_11 : decode cJ7_fill_53178 11 = .ok (.iload_n 2, 1) := by decide +kernel
theorem dJ7_fill_53178_12 : decode cJ7_fill_53178 12 = .ok (.iload_n 1, 1) := by decide +kernel
theorem dJ7_fill_53178_13 : decode cJ7_fill_53178 13 = .ok (.iastore, 1) := by decide +kernel
theorem dJ7_fill_53178_14 : decode cJ7_fill_53178 14 = .ok (.iinc 2 1, 3) := by decide +kernel
theorem dJ7_fill_53178_17 : decode cJ7_fill_53178 17 = .ok (.goto (-12), 3) := by decide +kernel
theorem dJ7_fill_53178_20 : decode cJ7_fill_53178 20 = .ok (.return_, 1) := by decide +kernel
