theorem dX1_hasKeeper_0 : decode cX1_hasKeeper 0 = .ok (.iload_n 1, 1) := by decide +kernel
theorem dX1_hasKeeper_1 : decode cX1_hasKeeper 1 = .ok (.ifCond .lt 15, 3) := by decide +kernel
theorem dX1_hasKeeper_4 : decode cX1_hasKeeper 4 = .ok (.iload_n 1, 1) := by decide +kernel
theorem dX1_hasKeeper_5 : decode cX1_hasKeeper 5 = .ok (.aload_n 0, 1) := by decide +kernel
theorem dX1_hasKeeper_6 : decode cX1_hasKeeper 6 = .ok (.getfield 43, 3) := by decide +kernel
theorem dX1_hasKeeper_9 : decode cX1_hasKeeper 9 = .ok (.if_icmp .ge 7, 3) := by decide +kernel
theorem dX1_hasKeeper_12 : decode cX1_hasKeeper 12 = .ok (.iconst 1, 1) := by decide +kernel
theorem dX1_hasKeeper_13 : decode cX1_hasKeeper 13 = .ok (.goto 4, 3) := by decide +kernel
theorem dX1_hasKeeper_16 : decode cX1_hasKeeper 16 = .ok (.iconst 0, 1) := by decide +kernel
theorem dX1_hasKeeper_17 : decode cX1_hasKeeper 17 = .ok (.ireturn, 1) := by decide +kernel
theorem dX1_isOpen_0 : decode cX1_isOpen 0 = .ok (.aload_n 0, 1) := by decide +kernel
theorem dX1_isOpen_1 : decode cX1_isOpen 1 = .ok (.getfield 50, 3) := by decide +kernel
theorem dX1_isOpen_4 : decode cX1_isOpen 4 = .ok (.iload_n 1, 1) := by decide +kernel
theorem dX1_isOpen_5 : decode cX1_isOpen 5 = .ok (.invokestatic 82, 3) := by decide +kernel
theorem dX1_isOpen_8 : decode cX1_isOpen 8 = .ok (.iconst 1, 1) := by decide +kernel
theorem dX1_isOpen_9 : decode cX1_isOpen 9 = .ok (.if_icmp .ne 7, 3) := by decide +kernel
theorem dX1_isOpen_12 : decode cX1_isOpen 12 = .ok (.iconst 1, 1) := by decide +kernel
theorem dX1_isOpen_13 : decode cX1_isOpen 13 = .ok (.goto 4, 3) := by decide +kernel
theorem dX1_isOpen_16 : decode cX1_isOpen 16 = .ok (.iconst 0, 1) := by decide +kernel
theorem dX1_isOpen_17 : decode cX1_isOpen 17 = .ok (.ireturn, 1) := by decide +kernel
theorem dX1_hateOf_0 : decode cX1_hateOf 0 = .ok (.aload_n 0, 1) := by decide +kernel
theorem dX1_hateOf_1 : decode cX1_hateOf 1 = .ok (.getfield 21, 3) := by decide +kernel
theorem dX1_hateOf_4 : decode cX1_hateOf 4 = .ok (.iload_n 1, 1) := by decide +kernel
theorem dX1_hateOf_5 : decode cX1_hateOf 5 = .ok (.iload_n 2, 1) := by decide +kernel
theorem dX1_hateOf_6 : decode cX1_hateOf 6 = .ok (.invokestatic 85, 3) := by decide +kernel
theorem dX1_hateOf_9 : decode cX1_hateOf 9 = .ok (.bipush 6, 2) := by decide +kernel
theorem dX1_hateOf_11 : decode cX1_hateOf 11 = .ok (.imul, 1) := by decide +kernel
theorem dX1_hateOf_12 : decode cX1_hateOf 12 = .ok (.iload_n 1, 1) := by decide +kernel
theorem dX1_hateOf_13 : decode cX1_hateOf 13 = .ok (.iload_n 2, 1) := by decide +kernel
theorem dX1_hateOf_14 : decode cX1_hateOf 14 = .ok (.invokestatic 90, 3) := by decide +kernel
theorem dX1_hateOf_17 : decode cX1_hateOf 17 = .ok (.iadd, 1) := by decide +kernel
theorem dX1_hateOf_18 : decode cX1_hateOf 18 = .ok (.invokestatic 66, 3) := by decide +kernel
theorem dX1_hateOf_21 : decode cX1_hateOf 21 = .ok (.ireturn, 1) := by decide +kernel
theorem dX1_allHate_0 : decode cX1_allHate 0 = .ok (.iconst 0, 1) := by decide +kernel
theorem dX1_allHate_1 : decode cX1_allHate 1 = .ok (.istore_n 1, 1) := by decide +kernel
theorem dX1_allHate_2 : decode cX1_allHate 2 = .ok (.iconst 0, 1) := by decide +kernel
theorem dX1_allHate_3 : decode cX1_allHate 3 = .ok (.istore_n 2, 1) := by decide +kernel
theorem dX1_allHate_4 : decode cX1_allHate 4 = .ok (.iload_n 2, 1) := by decide +kernel
theorem dX1_allHate_5 : decode cX1_allHate 5 = .ok (.aload_n 0, 1) := by decide +kernel
theorem dX1_allHate_6 : decode cX1_allHate 6 = .ok (.getfield 43, 3) := by decide +kernel
theorem dX1_allHate_9 : decode cX1_allHate 9 = .ok (.if_icmp .ge 36, 3) := by decide +kernel
theorem dX1_allHate_12 : decode cX1_allHate 12 = .ok (.iload_n 2, 1) := by decide +kernel
theorem dX1_allHate_13 : decode cX1_allHate 13 = .ok (.iconst 1, 1) := by decide +kernel
theorem dX1_allHate_14 : decode cX1_allHate 14 = .ok (.iadd, 1) := by decide +kernel
theorem dX1_allHate_15 : decode cX1_allHate 15 = .ok (.istore_n 3, 1) := by decide +kernel
theorem dX1_allHate_16 : decode cX1_allHate 16 = .ok (.iload_n 3, 1) := by decide +kernel
theorem dX1_allHate_17 : decode cX1_allHate 17 = .ok (.aload_n 0, 1) := by decide +kernel
theorem dX1_allHate_18 : decode cX1_allHate 18 = .ok (.getfield 43, 3) := by decide +kernel
theorem dX1_allHate_21 : decode cX1_allHate 21 = .ok (.if_icmp .ge 18, 3) := by decide +kernel
theorem dX1_allHate_24 : decode cX1_allHate 24 = .ok (.iload_n 1, 1) := by decide +kernel
theorem dX1_allHate_25 : decode cX1_allHate 25 = .ok (.aload_n 0, 1) := by decide +kernel
theorem dX1_allHate_26 : decode cX1_allHate 26 = .ok (.iload_n 2, 1) := by decide +kernel
theorem dX1_allHate_27 : decode cX1_allHate 27 = .ok (.iload_n 3, 1) := by decide +kernel
theorem dX1_allHate_28 : decode cX1_allHate 28 = .ok (.invokevirtual 93, 3) := by decide +kernel
theorem dX1_allHate_31 : decode cX1_allHate 31 = .ok (.iadd, 1) := by decide +kernel
theorem dX1_allHate_32 : decode cX1_allHate 32 = .ok (.istore_n 1, 1) := by decide +kernel
theorem dX1_allHate_33 : decode cX1_allHate 33 = .ok (.iinc 3 1, 3) := by decide +kernel
theorem dX1_allHate_36 : decode cX1_allHate 36 = .ok (.goto (-20), 3) := by decide +kernel
theorem dX1_allHate_39 : decode cX1_allHate 39 = .ok (.iinc 2 1, 3) := by decide +kernel
theorem dX1_allHate_42 : decode cX1_allHate 42 = .ok (.goto (-38), 3) := by decide +kernel
theorem dX1_allHate_45 : decode cX1_allHate 45 = .ok (.iload_n 1, 1) := by decide +kernel
theorem dX1_allHate_46 : decode cX1_allHate 46 = .ok (.ireturn, 1) := by decide +kernel
theorem dX1_setHate_0 : decode cX1_setHate 0 = .ok (.iconst 0, 1) := by decide +kernel
theorem dX1_setHate_1 : decode cX1_setHate 1 = .ok (.bipush 99, 2) := by decide +kernel
theorem dX1_setHate_3 : decode cX1_setHate 3 = .ok (.iload_n 3, 1) := by decide +kernel
theorem dX1_setHate_4 : decode cX1_setHate 4 = .ok (.invokestatic 85, 3) := by decide +kernel
theorem dX1_setHate_7 : decode cX1_setHate 7 = .ok (.invokestatic 90, 3) := by decide +kernel
theorem dX1_setHate_10 : decode cX1_setHate 10 = .ok (.istore 4, 2) := by decide +kernel
theorem dX1_setHate_12 : decode cX1_setHate 12 = .ok (.aload_n 0, 1) := by decide +kernel
theorem dX1_setHate_13 : decode cX1_setHate 13 = .ok (.getfield 21, 3) := by decide +kernel
theorem dX1_setHate_16 : decode cX1_setHate 16 = .ok (.iload_n 1, 1) := by decide +kernel
theorem dX1_setHate_17 : decode cX1_setHate 17 = .ok (.iload_n 2, 1) := by decide +kernel
theorem dX1_setHate_18 : decode cX1_setHate 18 = .ok (.invokestatic 85, 3) := by decide +kernel
theorem dX1_setHate_21 : decode cX1_setHate 21 = .ok (.bipush 6, 2) := by decide +kernel
theorem dX1_setHate_23 : decode cX1_setHate 23 = .ok (.imul, 1) := by decide +kernel
theorem dX1_setHate_24 : decode cX1_setHate 24 = .ok (.iload_n 1, 1) := by decide +kernel
theorem dX1_setHate_25 : decode cX1_setHate 25 = .ok (.iload_n 2, 1) := by decide +kernel
theorem dX1_setHate_26 : decode cX1_setHate 26 = .ok (.invokestatic 90, 3) := by decide +kernel
theorem dX1_setHate_29 : decode cX1_setHate 29 = .ok (.iadd, 1) := by decide +kernel
theorem dX1_setHate_30 : decode cX1_setHate 30 = .ok (.iload 4, 2) := by decide +kernel
theorem dX1_setHate_32 : decode cX1_setHate 32 = .ok (.invokestatic 96, 3) := by decide +kernel
theorem dX1_setHate_35 : decode cX1_setHate 35 = .ok (.return_, 1) := by decide +kernel
theorem dX8_at_0 : decode cX8_at 0 = .ok (.aload_n 0, 1) := by decide +kernel
theorem dX8_at_1 : decode cX8_at 1 = .ok (.ifnull 19, 3) := by decide +kernel
theorem dX8_at_4 : decode cX8_at 4 = .ok (.iload_n 1, 1) := by decide +kernel
theorem dX8_at_5 : decode cX8_at 5 = .ok (.ifCond .lt 15, 3) := by decide +kernel
theorem dX8_at_8 : decode cX8_at 8 = .ok (.iload_n 1, 1) := by decide +kernel
theorem dX8_at_9 : decode cX8_at 9 = .ok (.aload_n 0, 1) := by decide +kernel
theorem dX8_at_10 : decode cX8_at 10 = .ok (.arraylength, 1) := by decide +kernel
theorem dX8_at_11 : decode cX8_at 11 = .ok (.if_icmp .ge 9, 3) := by decide +kernel
theorem dX8_at_14 : decode cX8_at 14 = .ok (.aload_n 0, 1) := by decide +kernel
theorem dX8_at_15 : decode cX8_at 15 = .ok (.iload_n 1, 1) := by decide +kernel
theorem dX8_at_16 : decode cX8_at 16 = .ok (.iaload, 1) := by decide +kernel
theorem dX8_at_17 : decode cX8_at 17 = .ok (.goto 4, 3) := by decide +kernel
theorem dX8_at_20 : decode cX8_at 20 = .ok (.iconst 0, 1) := by decide +kernel
theorem dX8_at_21 : decode cX8_at 21 = .ok (.ireturn, 1) := by decide +kernel
theorem dX8_put_0 : decode cX8_put 0 = .ok (.aload_n 0, 1) := by decide +kernel
theorem dX8_put_1 : decode cX8_put 1 = .ok (.ifnull 17, 3) := by decide +kernel
theorem dX8_put_4 : decode cX8_put 4 = .ok (.iload_n 1, 1) := by decide +kernel
theorem dX8_put_5 : decode cX8_put 5 = .ok (.ifCond .lt 13, 3) := by decide +kernel
theorem dX8_put_8 : decode cX8_put 8 = .ok (.iload_n 1, 1) := by decide +kernel
theorem dX8_put_9 : decode cX8_put 9 = .ok (.aload_n 0, 1) := by decide +kernel
theorem dX8_put_10 : decode cX8_put 10 = .ok (.arraylength, 1) := by decide +kernel
theorem dX8_put_11 : decode cX8_put 11 = .ok (.if_icmp .ge 7, 3) := by decide +kernel
theorem dX8_put_14 : decode cX8_put 14 = .ok (.aload_n 0, 1) := by decide +kernel
theorem dX8_put_15 : decode cX8_put 15 = .ok (.iload_n 1, 1) := by decide +kernel
theorem dX8_put_16 : decode cX8_put 16 = .ok (.iload_n 2, 1) := by decide +kernel
theorem dX8_put_17 : decode cX8_put 17 = .ok (.iastore, 1) := by decide +kernel
theorem dX8_put_18 : decode cX8_put 18 = .ok (.return_, 1) := by decide +kernel
theorem dX8_bit_0 : decode cX8_bit 0 = .ok (.iload_n 1, 1) := by decide +kernel
theorem dX8_bit_1 : decode cX8_bit 1 = .ok (.ifCond .lt 17, 3) := by decide +kernel
theorem dX8_bit_4 : decode cX8_bit 4 = .ok (.iload_n 1, 1) := by decide +kernel
theorem dX8_bit_5 : decode cX8_bit 5 = .ok (.bipush 31, 2) := by decide +kernel
theorem dX8_bit_7 : decode cX8_bit 7 = .ok (.if_icmp .ge 11, 3) := by decide +kernel
theorem dX8_bit_10 : decode cX8_bit 10 = .ok (.iload_n 0, 1) := by decide +kernel
theorem dX8_bit_11 : decode cX8_bit 11 = .ok (.iload_n 1, 1) := by decide +kernel
theorem dX8_bit_12 : decode cX8_bit 12 = .ok (.ishr, 1) := by decide +kernel
theorem dX8_bit_13 : decode cX8_bit 13 = .ok (.iconst 1, 1) := by decide +kernel
theorem dX8_bit_14 : decode cX8_bit 14 = .ok (.iand, 1) := by decide +kernel
theorem dX8_bit_15 : decode cX8_bit 15 = .ok (.goto 4, 3) := by decide +kernel
theorem dX8_bit_18 : decode cX8_bit 18 = .ok (.iconst 0, 1) := by decide +kernel
theorem dX8_bit_19 : decode cX8_bit 19 = .ok (.ireturn, 1) := by decide +kernel
theorem dX8_twoName_0 : decode cX8_twoName 0 = .ok (.bipush 10, 2) := by decide +kernel
theorem dX8_twoName_2 : decode cX8_twoName 2 = .ok (.iload_n 0, 1) := by decide +kernel
theorem dX8_twoName_3 : decode cX8_twoName 3 = .ok (.iload_n 1, 1) := by decide +kernel
theorem dX8_twoName_4 : decode cX8_twoName 4 = .ok (.invokestatic 360, 3) := by decide +kernel
theorem dX8_twoName_7 : decode cX8_twoName 7 = .ok (.imul, 1) := by decide +kernel
theorem dX8_twoName_8 : decode cX8_twoName 8 = .ok (.iload_n 0, 1) := by decide +kernel
theorem dX8_twoName_9 : decode cX8_twoName 9 = .ok (.iload_n 1, 1) := by decide +kernel
theorem dX8_twoName_10 : decode cX8_twoName 10 = .ok (.invokestatic 338, 3) := by decide +kernel
theorem dX8_twoName_13 : decode cX8_twoName 13 = .ok (.iadd, 1) := by decide +kernel
theorem dX8_twoName_14 : decode cX8_twoName 14 = .ok (.ireturn, 1) := by decide +kernel
theorem dJ6_bitCount_0f7a4_0 : decode cJ6_bitCount_0f7a4 0 = .ok (.iload_n 0, 1) := by decide +kernel
theorem dJ6_bitCount_0f7a4_1 : decode cJ6_bitCount_0f7a4 1 = .ok (.iload_n 0, 1) := by decide +kernel
theorem dJ6_bitCount_0f7a4_2 : decode cJ6_bitCount_0f7a4 2 = .ok (.iconst 1, 1) := by decide +kernel
theorem dJ6_bitCount_0f7a4_3 : decode cJ6_bitCount_0f7a4 3 = .ok (.iushr, 1) := by decide +kernel
theorem dJ6_bitCount_0f7a4_4 : decode cJ6_bitCount_0f7a4 4 = .ok (.ldc_w 265, 3) := by decide +kernel
theorem dJ6_bitCount_0f7a4_7 : decode cJ6_bitCount_0f7a4 7 = .ok (.iand, 1) := by decide +kernel
theorem dJ6_bitCount_0f7a4_8 : decode cJ6_bitCount_0f7a4 8 = .ok (.isub, 1) := by decide +kernel
theorem dJ6_bitCount_0f7a4_9 : decode cJ6_bitCount_0f7a4 9 = .ok (.istore_n 0, 1) := by decide +kernel
theorem dJ6_bitCount_0f7a4_10 : decode cJ6_bitCount_0f7a4 10 = .ok (.iload_n 0, 1) := by decide +kernel
theorem dJ6_bitCount_0f7a4_11 : decode cJ6_bitCount_0f7a4 11 = .ok (.ldc_w 266, 3) := by decide +kernel
theorem dJ6_bitCount_0f7a4_14 : decode cJ6_bitCount_0f7a4 14 = .ok (.iand, 1) := by decide +kernel
theorem dJ6_bitCount_0f7a4_15 : decode cJ6_bitCount_0f7a4 15 = .ok (.iload_n 0, 1) := by decide +kernel
theorem dJ6_bitCount_0f7a4_16 : decode cJ6_bitCount_0f7a4 16 = .ok (.iconst 2, 1) := by decide +kernel
theorem dJ6_bitCount_0f7a4_17 : decode cJ6_bitCount_0f7a4 17 = .ok (.iushr, 1) := by decide +kernel
theorem dJ6_bitCount_0f7a4_18 : decode cJ6_bitCount_0f7a4 18 = .ok (.ldc_w 266, 3) := by decide +kernel
theorem dJ6_bitCount_0f7a4_21 : decode cJ6_bitCount_0f7a4 21 = .ok (.iand, 1) := by decide +kernel
theorem dJ6_bitCount_0f7a4_22 : decode cJ6_bitCount_0f7a4 22 = .ok (.iadd, 1) := by decide +kernel
theorem dJ6_bitCount_0f7a4_23 : decode cJ6_bitCount_0f7a4 23 = .ok (.istore_n 0, 1) := by decide +kernel
theorem dJ6_bitCount_0f7a4_24 : decode cJ6_bitCount_0f7a4 24 = .ok (.iload_n 0, 1) := by decide +kernel
theorem dJ6_bitCount_0f7a4_25 : decode cJ6_bitCount_0f7a4 25 = .ok (.iload_n 0, 1) := by decide +kernel
theorem dJ6_bitCount_0f7a4_26 : decode cJ6_bitCount_0f7a4 26 = .ok (.iconst 4, 1) := by decide +kernel
theorem dJ6_bitCount_0f7a4_27 : decode cJ6_bitCount_0f7a4 27 = .ok (.iushr, 1) := by decide +kernel
theorem dJ6_bitCount_0f7a4_28 : decode cJ6_bitCount_0f7a4 28 = .ok (.iadd, 1) := by decide +kernel
theorem dJ6_bitCount_0f7a4_29 : decode cJ6_bitCount_0f7a4 29 = .ok (.ldc_w 267, 3) := by decide +kernel
theorem dJ6_bitCount_0f7a4_32 : decode cJ6_bitCount_0f7a4 32 = .ok (.iand, 1) := by decide +kernel
theorem dJ6_bitCount_0f7a4_33 : decode cJ6_bitCount_0f7a4 33 = .ok (.istore_n 0, 1) := by decide +kernel
theorem dJ6_bitCount_0f7a4_34 : decode cJ6_bitCount_0f7a4 34 = .ok (.iload_n 0, 1) := by decide +kernel
theorem dJ6_bitCount_0f7a4_35 : decode cJ6_bitCount_0f7a4 35 = .ok (.iload_n 0, 1) := by decide +kernel
theorem dJ6_bitCount_0f7a4_36 : decode cJ6_bitCount_0f7a4 36 = .ok (.bipush 8, 2) := by decide +kernel
theorem dJ6_bitCount_0f7a4_38 : decode cJ6_bitCount_0f7a4 38 = .ok (.iushr, 1) := by decide +kernel
theorem dJ6_bitCount_0f7a4_39 : decode cJ6_bitCount_0f7a4 39 = .ok (.iadd, 1) := by decide +kernel
theorem dJ6_bitCount_0f7a4_40 : decode cJ6_bitCount_0f7a4 40 = .ok (.istore_n 0, 1) := by decide +kernel
theorem dJ6_bitCount_0f7a4_41 : decode cJ6_bitCount_0f7a4 41 = .ok (.iload_n 0, 1) := by decide +kernel
theorem dJ6_bitCount_0f7a4_42 : decode cJ6_bitCount_0f7a4 42 = .ok (.iload_n 0, 1) := by decide +kernel
theorem dJ6_bitCount_0f7a4_43 : decode cJ6_bitCount_0f7a4 43 = .ok (.bipush 16, 2) := by decide +kernel
theorem dJ6_bitCount_0f7a4_45 : decode cJ6_bitCount_0f7a4 45 = .ok (.iushr, 1) := by decide +kernel
theorem dJ6_bitCount_0f7a4_46 : decode cJ6_bitCount_0f7a4 46 = .ok (.iadd, 1) := by decide +kernel
theorem dJ6_bitCount_0f7a4_47 : decode cJ6_bitCount_0f7a4 47 = .ok (.istore_n 0, 1) := by decide +kernel
theorem dJ6_bitCount_0f7a4_48 : decode cJ6_bitCount_0f7a4 48 = .ok (.iload_n 0, 1) := by decide +kernel
theorem dJ6_bitCount_0f7a4_49 : decode cJ6_bitCount_0f7a4 49 = .ok (.bipush 63, 2) := by decide +kernel
theorem dJ6_bitCount_0f7a4_51 : decode cJ6_bitCount_0f7a4 51 = .ok (.iand, 1) := by decide +kernel
theorem dJ6_bitCount_0f7a4_52 : decode cJ6_bitCount_0f7a4 52 = .ok (.ireturn, 1) := by decide +kernel
