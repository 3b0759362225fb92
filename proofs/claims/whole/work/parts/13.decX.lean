theorem d_X_isRegister_0 : decode prog_1_method_20_code 0 = .ok (.iload_n 0, 1) := by decide +kernel
theorem d_X_isRegister_1 : decode prog_1_method_20_code 1 = .ok (.ifCond .lt 13, 3) := by decide +kernel
theorem d_X_isRegister_4 : decode prog_1_method_20_code 4 = .ok (.iload_n 0, 1) := by decide +kernel
theorem d_X_isRegister_5 : decode prog_1_method_20_code 5 = .ok (.bipush 8, 2) := by decide +kernel
theorem d_X_isRegister_7 : decode prog_1_method_20_code 7 = .ok (.if_icmp .ge 7, 3) := by decide +kernel
theorem d_X_isRegister_10 : decode prog_1_method_20_code 10 = .ok (.iconst 1, 1) := by decide +kernel
theorem d_X_isRegister_11 : decode prog_1_method_20_code 11 = .ok (.goto 4, 3) := by decide +kernel
theorem d_X_isRegister_14 : decode prog_1_method_20_code 14 = .ok (.iconst 0, 1) := by decide +kernel
theorem d_X_isRegister_15 : decode prog_1_method_20_code 15 = .ok (.ireturn, 1) := by decide +kernel
theorem d_X_order_0 : decode prog_1_method_25_code 0 = .ok (.lload_n 0, 1) := by decide +kernel
theorem d_X_order_1 : decode prog_1_method_25_code 1 = .ok (.lload_n 2, 1) := by decide +kernel
theorem d_X_order_2 : decode prog_1_method_25_code 2 = .ok (.lcmp, 1) := by decide +kernel
theorem d_X_order_3 : decode prog_1_method_25_code 3 = .ok (.ifCond .ge 7, 3) := by decide +kernel
theorem d_X_order_6 : decode prog_1_method_25_code 6 = .ok (.iconst (-1), 1) := by decide +kernel
theorem d_X_order_7 : decode prog_1_method_25_code 7 = .ok (.goto 14, 3) := by decide +kernel
theorem d_X_order_10 : decode prog_1_method_25_code 10 = .ok (.lload_n 0, 1) := by decide +kernel
theorem d_X_order_11 : decode prog_1_method_25_code 11 = .ok (.lload_n 2, 1) := by decide +kernel
theorem d_X_order_12 : decode prog_1_method_25_code 12 = .ok (.lcmp, 1) := by decide +kernel
theorem d_X_order_13 : decode prog_1_method_25_code 13 = .ok (.ifCond .le 7, 3) := by decide +kernel
theorem d_X_order_16 : decode prog_1_method_25_code 16 = .ok (.iconst 1, 1) := by decide +kernel
theorem d_X_order_17 : decode prog_1_method_25_code 17 = .ok (.goto 4, 3) := by decide +kernel
theorem d_X_order_20 : decode prog_1_method_25_code 20 = .ok (.iconst 0, 1) := by decide +kernel
theorem d_X_order_21 : decode prog_1_method_25_code 21 = .ok (.ireturn, 1) := by decide +kernel
theorem d_X_bitLength_0 : decode prog_1_method_26_code 0 = .ok (.bipush 64, 2) := by decide +kernel
theorem d_X_bitLength_2 : decode prog_1_method_26_code 2 = .ok (.lload_n 0, 1) := by decide +kernel
theorem d_X_bitLength_3 : decode prog_1_method_26_code 3 = .ok (.invokestatic 165, 3) := by decide +kernel
theorem d_X_bitLength_6 : decode prog_1_method_26_code 6 = .ok (.isub, 1) := by decide +kernel
theorem d_X_bitLength_7 : decode prog_1_method_26_code 7 = .ok (.ireturn, 1) := by decide +kernel
theorem d_X_isNumber_0 : decode prog_1_method_27_code 0 = .ok (.iload_n 2, 1) := by decide +kernel
theorem d_X_isNumber_1 : decode prog_1_method_27_code 1 = .ok (.lload_n 0, 1) := by decide +kernel
theorem d_X_isNumber_2 : decode prog_1_method_27_code 2 = .ok (.invokestatic 84, 3) := by decide +kernel
theorem d_X_isNumber_5 : decode prog_1_method_27_code 5 = .ok (.invokestatic 168, 3) := by decide +kernel
theorem d_X_isNumber_8 : decode prog_1_method_27_code 8 = .ok (.iadd, 1) := by decide +kernel
theorem d_X_isNumber_9 : decode prog_1_method_27_code 9 = .ok (.iconst 1, 1) := by decide +kernel
theorem d_X_isNumber_10 : decode prog_1_method_27_code 10 = .ok (.isub, 1) := by decide +kernel
theorem d_X_isNumber_11 : decode prog_1_method_27_code 11 = .ok (.istore_n 3, 1) := by decide +kernel
theorem d_X_isNumber_12 : decode prog_1_method_27_code 12 = .ok (.lload_n 0, 1) := by decide +kernel
theorem d_X_isNumber_13 : decode prog_1_method_27_code 13 = .ok (.lconst 0, 1) := by decide +kernel
theorem d_X_isNumber_14 : decode prog_1_method_27_code 14 = .ok (.lcmp, 1) := by decide +kernel
theorem d_X_isNumber_15 : decode prog_1_method_27_code 15 = .ok (.ifCond .eq 15, 3) := by decide +kernel
theorem d_X_isNumber_18 : decode prog_1_method_27_code 18 = .ok (.iload_n 3, 1) := by decide +kernel
theorem d_X_isNumber_19 : decode prog_1_method_27_code 19 = .ok (.bipush (-100), 2) := by decide +kernel
theorem d_X_isNumber_21 : decode prog_1_method_27_code 21 = .ok (.if_icmp .lt 13, 3) := by decide +kernel
theorem d_X_isNumber_24 : decode prog_1_method_27_code 24 = .ok (.iload_n 3, 1) := by decide +kernel
theorem d_X_isNumber_25 : decode prog_1_method_27_code 25 = .ok (.bipush 100, 2) := by decide +kernel
theorem d_X_isNumber_27 : decode prog_1_method_27_code 27 = .ok (.if_icmp .ge 7, 3) := by decide +kernel
theorem d_X_isNumber_30 : decode prog_1_method_27_code 30 = .ok (.iconst 1, 1) := by decide +kernel
theorem d_X_isNumber_31 : decode prog_1_method_27_code 31 = .ok (.goto 4, 3) := by decide +kernel
theorem d_X_isNumber_34 : decode prog_1_method_27_code 34 = .ok (.iconst 0, 1) := by decide +kernel
theorem d_X_isNumber_35 : decode prog_1_method_27_code 35 = .ok (.ireturn, 1) := by decide +kernel
theorem d_X_leftAfter_0 : decode prog_1_method_34_code 0 = .ok (.lload_n 2, 1) := by decide +kernel
theorem d_X_leftAfter_1 : decode prog_1_method_34_code 1 = .ok (.lconst 0, 1) := by decide +kernel
theorem d_X_leftAfter_2 : decode prog_1_method_34_code 2 = .ok (.lcmp, 1) := by decide +kernel
theorem d_X_leftAfter_3 : decode prog_1_method_34_code 3 = .ok (.ifCond .gt 5, 3) := by decide +kernel
theorem d_X_leftAfter_6 : decode prog_1_method_34_code 6 = .ok (.lconst 0, 1) := by decide +kernel
theorem d_X_leftAfter_7 : decode prog_1_method_34_code 7 = .ok (.lreturn, 1) := by decide +kernel
theorem d_X_leftAfter_8 : decode prog_1_method_34_code 8 = .ok (.lload_n 0, 1) := by decide +kernel
theorem d_X_leftAfter_9 : decode prog_1_method_34_code 9 = .ok (.lload_n 2, 1) := by decide +kernel
theorem d_X_leftAfter_10 : decode prog_1_method_34_code 10 = .ok (.lrem, 1) := by decide +kernel
theorem d_X_leftAfter_11 : decode prog_1_method_34_code 11 = .ok (.lstore 5, 2) := by decide +kernel
theorem d_X_leftAfter_13 : decode prog_1_method_34_code 13 = .ok (.iload 4, 2) := by decide +kernel
theorem d_X_leftAfter_15 : decode prog_1_method_34_code 15 = .ok (.istore 7, 2) := by decide +kernel
theorem d_X_leftAfter_17 : decode prog_1_method_34_code 17 = .ok (.iload 7, 2) := by decide +kernel
theorem d_X_leftAfter_19 : decode prog_1_method_34_code 19 = .ok (.ifCond .le 23, 3) := by decide +kernel
theorem d_X_leftAfter_22 : decode prog_1_method_34_code 22 = .ok (.lload 5, 2) := by decide +kernel
theorem d_X_leftAfter_24 : decode prog_1_method_34_code 24 = .ok (.iload 7, 2) := by decide +kernel
theorem d_X_leftAfter_26 : decode prog_1_method_34_code 26 = .ok (.bipush 10, 2) := by decide +kernel
theorem d_X_leftAfter_28 : decode prog_1_method_34_code 28 = .ok (.invokestatic 184, 3) := by decide +kernel
theorem d_X_leftAfter_31 : decode prog_1_method_34_code 31 = .ok (.lshl, 1) := by decide +kernel
theorem d_X_leftAfter_32 : decode prog_1_method_34_code 32 = .ok (.lload_n 2, 1) := by decide +kernel
theorem d_X_leftAfter_33 : decode prog_1_method_34_code 33 = .ok (.lrem, 1) := by decide +kernel
theorem d_X_leftAfter_34 : decode prog_1_method_34_code 34 = .ok (.lstore 5, 2) := by decide +kernel
theorem d_X_leftAfter_36 : decode prog_1_method_34_code 36 = .ok (.iinc 7 (-10), 3) := by decide +kernel
theorem d_X_leftAfter_39 : decode prog_1_method_34_code 39 = .ok (.goto (-22), 3) := by decide +kernel
theorem d_X_leftAfter_42 : decode prog_1_method_34_code 42 = .ok (.lload 5, 2) := by decide +kernel
theorem d_X_leftAfter_44 : decode prog_1_method_34_code 44 = .ok (.lreturn, 1) := by decide +kernel
theorem d_X_shifted_0 : decode prog_1_method_35_code 0 = .ok (.iload_n 2, 1) := by decide +kernel
theorem d_X_shifted_1 : decode prog_1_method_35_code 1 = .ok (.ifCond .lt 7, 3) := by decide +kernel
theorem d_X_shifted_4 : decode prog_1_method_35_code 4 = .ok (.lload_n 0, 1) := by decide +kernel
theorem d_X_shifted_5 : decode prog_1_method_35_code 5 = .ok (.iload_n 2, 1) := by decide +kernel
theorem d_X_shifted_6 : decode prog_1_method_35_code 6 = .ok (.lshl, 1) := by decide +kernel
theorem d_X_shifted_7 : decode prog_1_method_35_code 7 = .ok (.lreturn, 1) := by decide +kernel
theorem d_X_shifted_8 : decode prog_1_method_35_code 8 = .ok (.iload_n 2, 1) := by decide +kernel
theorem d_X_shifted_9 : decode prog_1_method_35_code 9 = .ok (.bipush (-64), 2) := by decide +kernel
theorem d_X_shifted_11 : decode prog_1_method_35_code 11 = .ok (.if_icmp .le 10, 3) := by decide +kernel
theorem d_X_shifted_14 : decode prog_1_method_35_code 14 = .ok (.lload_n 0, 1) := by decide +kernel
theorem d_X_shifted_15 : decode prog_1_method_35_code 15 = .ok (.iload_n 2, 1) := by decide +kernel
theorem d_X_shifted_16 : decode prog_1_method_35_code 16 = .ok (.ineg, 1) := by decide +kernel
theorem d_X_shifted_17 : decode prog_1_method_35_code 17 = .ok (.lshr, 1) := by decide +kernel
theorem d_X_shifted_18 : decode prog_1_method_35_code 18 = .ok (.goto 4, 3) := by decide +kernel
theorem d_X_shifted_21 : decode prog_1_method_35_code 21 = .ok (.lconst 0, 1) := by decide +kernel
theorem d_X_shifted_22 : decode prog_1_method_35_code 22 = .ok (.lreturn, 1) := by decide +kernel
theorem d_X_isNarrow_0 : decode prog_1_method_21_code 0 = .ok (.aload_n 0, 1) := by decide +kernel
theorem d_X_isNarrow_1 : decode prog_1_method_21_code 1 = .ok (.getfield 9, 3) := by decide +kernel
theorem d_X_isNarrow_4 : decode prog_1_method_21_code 4 = .ok (.iload_n 1, 1) := by decide +kernel
theorem d_X_isNarrow_5 : decode prog_1_method_21_code 5 = .ok (.laload, 1) := by decide +kernel
theorem d_X_isNarrow_6 : decode prog_1_method_21_code 6 = .ok (.ldc2_w 163, 3) := by decide +kernel
theorem d_X_isNarrow_9 : decode prog_1_method_21_code 9 = .ok (.land, 1) := by decide +kernel
theorem d_X_isNarrow_10 : decode prog_1_method_21_code 10 = .ok (.lconst 0, 1) := by decide +kernel
theorem d_X_isNarrow_11 : decode prog_1_method_21_code 11 = .ok (.lcmp, 1) := by decide +kernel
theorem d_X_isNarrow_12 : decode prog_1_method_21_code 12 = .ok (.ifCond .ne 7, 3) := by decide +kernel
theorem d_X_isNarrow_15 : decode prog_1_method_21_code 15 = .ok (.iconst 1, 1) := by decide +kernel
theorem d_X_isNarrow_16 : decode prog_1_method_21_code 16 = .ok (.goto 4, 3) := by decide +kernel
theorem d_X_isNarrow_19 : decode prog_1_method_21_code 19 = .ok (.iconst 0, 1) := by decide +kernel
theorem d_X_isNarrow_20 : decode prog_1_method_21_code 20 = .ok (.ireturn, 1) := by decide +kernel
theorem d_X_mayTake_0 : decode prog_1_method_22_code 0 = .ok (.iload_n 1, 1) := by decide +kernel
theorem d_X_mayTake_1 : decode prog_1_method_22_code 1 = .ok (.invokestatic 30, 3) := by decide +kernel
theorem d_X_mayTake_4 : decode prog_1_method_22_code 4 = .ok (.ifCond .eq 17, 3) := by decide +kernel
theorem d_X_mayTake_7 : decode prog_1_method_22_code 7 = .ok (.iload_n 2, 1) := by decide +kernel
theorem d_X_mayTake_8 : decode prog_1_method_22_code 8 = .ok (.invokestatic 30, 3) := by decide +kernel
theorem d_X_mayTake_11 : decode prog_1_method_22_code 11 = .ok (.ifCond .eq 10, 3) := by decide +kernel
theorem d_X_mayTake_14 : decode prog_1_method_22_code 14 = .ok (.iload_n 3, 1) := by decide +kernel
theorem d_X_mayTake_15 : decode prog_1_method_22_code 15 = .ok (.invokestatic 30, 3) := by decide +kernel
theorem d_X_mayTake_18 : decode prog_1_method_22_code 18 = .ok (.ifCond .ne 5, 3) := by decide +kernel
theorem d_X_mayTake_21 : decode prog_1_method_22_code 21 = .ok (.iconst 0, 1) := by decide +kernel
theorem d_X_mayTake_22 : decode prog_1_method_22_code 22 = .ok (.ireturn, 1) := by decide +kernel
theorem d_X_mayTake_23 : decode prog_1_method_22_code 23 = .ok (.iload 4, 2) := by decide +kernel
theorem d_X_mayTake_25 : decode prog_1_method_22_code 25 = .ok (.ifCond .eq 19, 3) := by decide +kernel
theorem d_X_mayTake_28 : decode prog_1_method_22_code 28 = .ok (.aload_n 0, 1) := by decide +kernel
theorem d_X_mayTake_29 : decode prog_1_method_22_code 29 = .ok (.iload_n 2, 1) := by decide +kernel
theorem d_X_mayTake_30 : decode prog_1_method_22_code 30 = .ok (.invokevirtual 100, 3) := by decide +kernel
theorem d_X_mayTake_33 : decode prog_1_method_22_code 33 = .ok (.ifCond .eq 15, 3) := by decide +kernel
theorem d_X_mayTake_36 : decode prog_1_method_22_code 36 = .ok (.aload_n 0, 1) := by decide +kernel
theorem d_X_mayTake_37 : decode prog_1_method_22_code 37 = .ok (.iload_n 3, 1) := by decide +kernel
theorem d_X_mayTake_38 : decode prog_1_method_22_code 38 = .ok (.invokevirtual 100, 3) := by decide +kernel
theorem d_X_mayTake_41 : decode prog_1_method_22_code 41 = .ok (.ifCond .eq 7, 3) := by decide +kernel
theorem d_X_mayTake_44 : decode prog_1_method_22_code 44 = .ok (.iconst 1, 1) := by decide +kernel
theorem d_X_mayTake_45 : decode prog_1_method_22_code 45 = .ok (.goto 4, 3) := by decide +kernel
theorem d_X_mayTake_48 : decode prog_1_method_22_code 48 = .ok (.iconst 0, 1) := by decide +kernel
theorem d_X_mayTake_49 : decode prog_1_method_22_code 49 = .ok (.ireturn, 1) := by decide +kernel
theorem d_X_narrowRegisters_0 : decode prog_1_method_23_code 0 = .ok (.iconst 0, 1) := by decide +kernel
theorem d_X_narrowRegisters_1 : decode prog_1_method_23_code 1 = .ok (.istore_n 1, 1) := by decide +kernel
theorem d_X_narrowRegisters_2 : decode prog_1_method_23_code 2 = .ok (.iconst 0, 1) := by decide +kernel
theorem d_X_narrowRegisters_3 : decode prog_1_method_23_code 3 = .ok (.istore_n 2, 1) := by decide +kernel
theorem d_X_narrowRegisters_4 : decode prog_1_method_23_code 4 = .ok (.iload_n 2, 1) := by decide +kernel
theorem d_X_narrowRegisters_5 : decode prog_1_method_23_code 5 = .ok (.bipush 8, 2) := by decide +kernel
theorem d_X_narrowRegisters_7 : decode prog_1_method_23_code 7 = .ok (.if_icmp .ge 20, 3) := by decide +kernel
theorem d_X_narrowRegisters_10 : decode prog_1_method_23_code 10 = .ok (.aload_n 0, 1) := by decide +kernel
theorem d_X_narrowRegisters_11 : decode prog_1_method_23_code 11 = .ok (.iload_n 2, 1) := by decide +kernel
theorem d_X_narrowRegisters_12 : decode prog_1_method_23_code 12 = .ok (.invokevirtual 100, 3) := by decide +kernel
theorem d_X_narrowRegisters_15 : decode prog_1_method_23_code 15 = .ok (.ifCond .eq 6, 3) := by decide +kernel
theorem d_X_narrowRegisters_18 : decode prog_1_method_23_code 18 = .ok (.iinc 1 1, 3) := by decide +kernel
theorem d_X_narrowRegisters_21 : decode prog_1_method_23_code 21 = .ok (.iinc 2 1, 3) := by decide +kernel
theorem d_X_narrowRegisters_24 : decode prog_1_method_23_code 24 = .ok (.goto (-20), 3) := by decide +kernel
theorem d_X_narrowRegisters_27 : decode prog_1_method_23_code 27 = .ok (.iload_n 1, 1) := by decide +kernel
theorem d_X_narrowRegisters_28 : decode prog_1_method_23_code 28 = .ok (.ireturn, 1) := by decide +kernel
theorem d_X_topOf_0 : decode prog_1_method_24_code 0 = .ok (.aload_n 0, 1) := by decide +kernel
theorem d_X_topOf_1 : decode prog_1_method_24_code 1 = .ok (.getfield 13, 3) := by decide +kernel
theorem d_X_topOf_4 : decode prog_1_method_24_code 4 = .ok (.iload_n 1, 1) := by decide +kernel
theorem d_X_topOf_5 : decode prog_1_method_24_code 5 = .ok (.iaload, 1) := by decide +kernel
theorem d_X_topOf_6 : decode prog_1_method_24_code 6 = .ok (.bipush 53, 2) := by decide +kernel
theorem d_X_topOf_8 : decode prog_1_method_24_code 8 = .ok (.iadd, 1) := by decide +kernel
theorem d_X_topOf_9 : decode prog_1_method_24_code 9 = .ok (.iconst 1, 1) := by decide +kernel
theorem d_X_topOf_10 : decode prog_1_method_24_code 10 = .ok (.isub, 1) := by decide +kernel
theorem d_X_topOf_11 : decode prog_1_method_24_code 11 = .ok (.ireturn, 1) := by decide +kernel
theorem d_X_outOfRange_0 : decode prog_1_method_28_code 0 = .ok (.aload_n 0, 1) := by decide +kernel
theorem d_X_outOfRange_1 : decode prog_1_method_28_code 1 = .ok (.dup, 1) := by decide +kernel
theorem d_X_outOfRange_2 : decode prog_1_method_28_code 2 = .ok (.getfield 160, 3) := by decide +kernel
theorem d_X_outOfRange_5 : decode prog_1_method_28_code 5 = .ok (.iconst 1, 1) := by decide +kernel
theorem d_X_outOfRange_6 : decode prog_1_method_28_code 6 = .ok (.iadd, 1) := by decide +kernel
theorem d_X_outOfRange_7 : decode prog_1_method_28_code 7 = .ok (.putfield 160, 3) := by decide +kernel
theorem d_X_outOfRange_10 : decode prog_1_method_28_code 10 = .ok (.bipush (-2), 2) := by decide +kernel
theorem d_X_outOfRange_12 : decode prog_1_method_28_code 12 = .ok (.ireturn, 1) := by decide +kernel
theorem d_X_store_0 : decode prog_1_method_29_code 0 = .ok (.lload_n 2, 1) := by decide +kernel
theorem d_X_store_1 : decode prog_1_method_29_code 1 = .ok (.invokestatic 84, 3) := by decide +kernel
theorem d_X_store_4 : decode prog_1_method_29_code 4 = .ok (.lstore 5, 2) := by decide +kernel
theorem d_X_store_6 : decode prog_1_method_29_code 6 = .ok (.bipush 53, 2) := by decide +kernel
theorem d_X_store_8 : decode prog_1_method_29_code 8 = .ok (.lload 5, 2) := by decide +kernel
theorem d_X_store_10 : decode prog_1_method_29_code 10 = .ok (.invokestatic 168, 3) := by decide +kernel
theorem d_X_store_13 : decode prog_1_method_29_code 13 = .ok (.isub, 1) := by decide +kernel
theorem d_X_store_14 : decode prog_1_method_29_code 14 = .ok (.istore 7, 2) := by decide +kernel
theorem d_X_store_16 : decode prog_1_method_29_code 16 = .ok (.iload 7, 2) := by decide +kernel
theorem d_X_store_18 : decode prog_1_method_29_code 18 = .ok (.ifCond .ge 10, 3) := by decide +kernel
theorem d_X_store_21 : decode prog_1_method_29_code 21 = .ok (.lload 5, 2) := by decide +kernel
theorem d_X_store_23 : decode prog_1_method_29_code 23 = .ok (.iconst 1, 1) := by decide +kernel
theorem d_X_store_24 : decode prog_1_method_29_code 24 = .ok (.lshr, 1) := by decide +kernel
theorem d_X_store_25 : decode prog_1_method_29_code 25 = .ok (.goto 8, 3) := by decide +kernel
theorem d_X_store_28 : decode prog_1_method_29_code 28 = .ok (.lload 5, 2) := by decide +kernel
theorem d_X_store_30 : decode prog_1_method_29_code 30 = .ok (.iload 7, 2) := by decide +kernel
theorem d_X_store_32 : decode prog_1_method_29_code 32 = .ok (.lshl, 1) := by decide +kernel
theorem d_X_store_33 : decode prog_1_method_29_code 33 = .ok (.lstore 8, 2) := by decide +kernel
theorem d_X_store_35 : decode prog_1_method_29_code 35 = .ok (.aload_n 0, 1) := by decide +kernel
theorem d_X_store_36 : decode prog_1_method_29_code 36 = .ok (.getfield 9, 3) := by decide +kernel
theorem d_X_store_39 : decode prog_1_method_29_code 39 = .ok (.iload_n 1, 1) := by decide +kernel
theorem d_X_store_40 : decode prog_1_method_29_code 40 = .ok (.lload_n 2, 1) := by decide +kernel
theorem d_X_store_41 : decode prog_1_method_29_code 41 = .ok (.lconst 0, 1) := by decide +kernel
theorem d_X_store_42 : decode prog_1_method_29_code 42 = .ok (.lcmp, 1) := by decide +kernel
theorem d_X_store_43 : decode prog_1_method_29_code 43 = .ok (.ifCond .ge 9, 3) := by decide +kernel
theorem d_X_store_46 : decode prog_1_method_29_code 46 = .ok (.lload 8, 2) := by decide +kernel
theorem d_X_store_48 : decode prog_1_method_29_code 48 = .ok (.lneg, 1) := by decide +kernel
theorem d_X_store_49 : decode prog_1_method_29_code 49 = .ok (.goto 5, 3) := by decide +kernel
theorem d_X_store_52 : decode prog_1_method_29_code 52 = .ok (.lload 8, 2) := by decide +kernel
theorem d_X_store_54 : decode prog_1_method_29_code 54 = .ok (.lastore, 1) := by decide +kernel
theorem d_X_store_55 : decode prog_1_method_29_code 55 = .ok (.aload_n 0, 1) := by decide +kernel
theorem d_X_store_56 : decode prog_1_method_29_code 56 = .ok (.getfield 13, 3) := by decide +kernel
theorem d_X_store_59 : decode prog_1_method_29_code 59 = .ok (.iload_n 1, 1) := by decide +kernel
theorem d_X_store_60 : decode prog_1_method_29_code 60 = .ok (.lload_n 2, 1) := by decide +kernel
theorem d_X_store_61 : decode prog_1_method_29_code 61 = .ok (.lconst 0, 1) := by decide +kernel
theorem d_X_store_62 : decode prog_1_method_29_code 62 = .ok (.lcmp, 1) := by decide +kernel
theorem d_X_store_63 : decode prog_1_method_29_code 63 = .ok (.ifCond .ne 7, 3) := by decide +kernel
theorem d_X_store_66 : decode prog_1_method_29_code 66 = .ok (.iconst 0, 1) := by decide +kernel
theorem d_X_store_67 : decode prog_1_method_29_code 67 = .ok (.goto 8, 3) := by decide +kernel
theorem d_X_store_70 : decode prog_1_method_29_code 70 = .ok (.iload 4, 2) := by decide +kernel
theorem d_X_store_72 : decode prog_1_method_29_code 72 = .ok (.iload 7, 2) := by decide +kernel
theorem d_X_store_74 : decode prog_1_method_29_code 74 = .ok (.isub, 1) := by decide +kernel
theorem d_X_store_75 : decode prog_1_method_29_code 75 = .ok (.iastore, 1) := by decide +kernel
theorem d_X_store_76 : decode prog_1_method_29_code 76 = .ok (.return_, 1) := by decide +kernel
theorem d_X_put_0 : decode prog_1_method_30_code 0 = .ok (.lload_n 2, 1) := by decide +kernel
theorem d_X_put_1 : decode prog_1_method_30_code 1 = .ok (.iload 4, 2) := by decide +kernel
theorem d_X_put_3 : decode prog_1_method_30_code 3 = .ok (.invokestatic 38, 3) := by decide +kernel
theorem d_X_put_6 : decode prog_1_method_30_code 6 = .ok (.ifCond .ne 8, 3) := by decide +kernel
theorem d_X_put_9 : decode prog_1_method_30_code 9 = .ok (.aload_n 0, 1) := by decide +kernel
theorem d_X_put_10 : decode prog_1_method_30_code 10 = .ok (.invokevirtual 42, 3) := by decide +kernel
theorem d_X_put_13 : decode prog_1_method_30_code 13 = .ok (.ireturn, 1) := by decide +kernel
theorem d_X_put_14 : decode prog_1_method_30_code 14 = .ok (.aload_n 0, 1) := by decide +kernel
theorem d_X_put_15 : decode prog_1_method_30_code 15 = .ok (.iload_n 1, 1) := by decide +kernel
theorem d_X_put_16 : decode prog_1_method_30_code 16 = .ok (.lload_n 2, 1) := by decide +kernel
theorem d_X_put_17 : decode prog_1_method_30_code 17 = .ok (.iload 4, 2) := by decide +kernel
theorem d_X_put_19 : decode prog_1_method_30_code 19 = .ok (.invokevirtual 46, 3) := by decide +kernel
theorem d_X_put_22 : decode prog_1_method_30_code 22 = .ok (.aload_n 0, 1) := by decide +kernel
theorem d_X_put_23 : decode prog_1_method_30_code 23 = .ok (.iload 5, 2) := by decide +kernel
theorem d_X_put_25 : decode prog_1_method_30_code 25 = .ok (.putfield 150, 3) := by decide +kernel
theorem d_X_put_28 : decode prog_1_method_30_code 28 = .ok (.iload 5, 2) := by decide +kernel
theorem d_X_put_30 : decode prog_1_method_30_code 30 = .ok (.ifCond .eq 13, 3) := by decide +kernel
theorem d_X_put_33 : decode prog_1_method_30_code 33 = .ok (.aload_n 0, 1) := by decide +kernel
theorem d_X_put_34 : decode prog_1_method_30_code 34 = .ok (.dup, 1) := by decide +kernel
theorem d_X_put_35 : decode prog_1_method_30_code 35 = .ok (.getfield 157, 3) := by decide +kernel
theorem d_X_put_38 : decode prog_1_method_30_code 38 = .ok (.iconst 1, 1) := by decide +kernel
theorem d_X_put_39 : decode prog_1_method_30_code 39 = .ok (.iadd, 1) := by decide +kernel
theorem d_X_put_40 : decode prog_1_method_30_code 40 = .ok (.putfield 157, 3) := by decide +kernel
theorem d_X_put_43 : decode prog_1_method_30_code 43 = .ok (.iconst 0, 1) := by decide +kernel
theorem d_X_put_44 : decode prog_1_method_30_code 44 = .ok (.ireturn, 1) := by decide +kernel
theorem d_X_finish_0 : decode prog_1_method_31_code 0 = .ok (.aload_n 2, 1) := by decide +kernel
theorem d_X_finish_1 : decode prog_1_method_31_code 1 = .ok (.iload_n 3, 1) := by decide +kernel
theorem d_X_finish_2 : decode prog_1_method_31_code 2 = .ok (.ifCond .eq 8, 3) := by decide +kernel
theorem d_X_finish_5 : decode prog_1_method_31_code 5 = .ok (.bipush 24, 2) := by decide +kernel
theorem d_X_finish_7 : decode prog_1_method_31_code 7 = .ok (.goto 5, 3) := by decide +kernel
theorem d_X_finish_10 : decode prog_1_method_31_code 10 = .ok (.bipush 53, 2) := by decide +kernel
theorem d_X_finish_12 : decode prog_1_method_31_code 12 = .ok (.invokevirtual 171, 3) := by decide +kernel
theorem d_X_finish_15 : decode prog_1_method_31_code 15 = .ok (.istore 4, 2) := by decide +kernel
theorem d_X_finish_17 : decode prog_1_method_31_code 17 = .ok (.aload_n 0, 1) := by decide +kernel
theorem d_X_finish_18 : decode prog_1_method_31_code 18 = .ok (.iload_n 1, 1) := by decide +kernel
theorem d_X_finish_19 : decode prog_1_method_31_code 19 = .ok (.aload_n 2, 1) := by decide +kernel
theorem d_X_finish_20 : decode prog_1_method_31_code 20 = .ok (.getfield 174, 3) := by decide +kernel
theorem d_X_finish_23 : decode prog_1_method_31_code 23 = .ok (.ifCond .ge 11, 3) := by decide +kernel
theorem d_X_finish_26 : decode prog_1_method_31_code 26 = .ok (.aload_n 2, 1) := by decide +kernel
theorem d_X_finish_27 : decode prog_1_method_31_code 27 = .ok (.getfield 177, 3) := by decide +kernel
theorem d_X_finish_30 : decode prog_1_method_31_code 30 = .ok (.lneg, 1) := by decide +kernel
theorem d_X_finish_31 : decode prog_1_method_31_code 31 = .ok (.goto 7, 3) := by decide +kernel
theorem d_X_finish_34 : decode prog_1_method_31_code 34 = .ok (.aload_n 2, 1) := by decide +kernel
theorem d_X_finish_35 : decode prog_1_method_31_code 35 = .ok (.getfield 177, 3) := by decide +kernel
theorem d_X_finish_38 : decode prog_1_method_31_code 38 = .ok (.aload_n 2, 1) := by decide +kernel
theorem d_X_finish_39 : decode prog_1_method_31_code 39 = .ok (.getfield 181, 3) := by decide +kernel
theorem d_X_finish_42 : decode prog_1_method_31_code 42 = .ok (.iload 4, 2) := by decide +kernel
theorem d_X_finish_44 : decode prog_1_method_31_code 44 = .ok (.invokevirtual 96, 3) := by decide +kernel
theorem d_X_finish_47 : decode prog_1_method_31_code 47 = .ok (.ireturn, 1) := by decide +kernel
theorem d_X_productPlus_0 : decode prog_1_method_32_code 0 = .ok (.aload_n 0, 1) := by decide +kernel
theorem d_X_productPlus_1 : decode prog_1_method_32_code 1 = .ok (.iload_n 1, 1) := by decide +kernel
theorem d_X_productPlus_2 : decode prog_1_method_32_code 2 = .ok (.iload_n 2, 1) := by decide +kernel
theorem d_X_productPlus_3 : decode prog_1_method_32_code 3 = .ok (.iload_n 3, 1) := by decide +kernel
theorem d_X_productPlus_4 : decode prog_1_method_32_code 4 = .ok (.iload 5, 2) := by decide +kernel
theorem d_X_productPlus_6 : decode prog_1_method_32_code 6 = .ok (.invokevirtual 50, 3) := by decide +kernel
theorem d_X_productPlus_9 : decode prog_1_method_32_code 9 = .ok (.ifCond .eq 16, 3) := by decide +kernel
theorem d_X_productPlus_12 : decode prog_1_method_32_code 12 = .ok (.aload_n 0, 1) := by decide +kernel
theorem d_X_productPlus_13 : decode prog_1_method_32_code 13 = .ok (.iload_n 1, 1) := by decide +kernel
theorem d_X_productPlus_14 : decode prog_1_method_32_code 14 = .ok (.iload_n 2, 1) := by decide +kernel
theorem d_X_productPlus_15 : decode prog_1_method_32_code 15 = .ok (.iload 4, 2) := by decide +kernel
theorem d_X_productPlus_17 : decode prog_1_method_32_code 17 = .ok (.iload 5, 2) := by decide +kernel
theorem d_X_productPlus_19 : decode prog_1_method_32_code 19 = .ok (.invokevirtual 50, 3) := by decide +kernel
theorem d_X_productPlus_22 : decode prog_1_method_32_code 22 = .ok (.ifCond .ne 5, 3) := by decide +kernel
theorem d_X_productPlus_25 : decode prog_1_method_32_code 25 = .ok (.iconst (-1), 1) := by decide +kernel
theorem d_X_productPlus_26 : decode prog_1_method_32_code 26 = .ok (.ireturn, 1) := by decide +kernel
theorem d_X_productPlus_27 : decode prog_1_method_32_code 27 = .ok (.aload_n 0, 1) := by decide +kernel
theorem d_X_productPlus_28 : decode prog_1_method_32_code 28 = .ok (.getfield 20, 3) := by decide +kernel
theorem d_X_productPlus_31 : decode prog_1_method_32_code 31 = .ok (.aload_n 0, 1) := by decide +kernel
theorem d_X_productPlus_32 : decode prog_1_method_32_code 32 = .ok (.getfield 9, 3) := by decide +kernel
theorem d_X_productPlus_35 : decode prog_1_method_32_code 35 = .ok (.iload_n 2, 1) := by decide +kernel
theorem d_X_productPlus_36 : decode prog_1_method_32_code 36 = .ok (.laload, 1) := by decide +kernel
theorem d_X_productPlus_37 : decode prog_1_method_32_code 37 = .ok (.aload_n 0, 1) := by decide +kernel
theorem d_X_productPlus_38 : decode prog_1_method_32_code 38 = .ok (.getfield 9, 3) := by decide +kernel
theorem d_X_productPlus_41 : decode prog_1_method_32_code 41 = .ok (.iload_n 3, 1) := by decide +kernel
theorem d_X_productPlus_42 : decode prog_1_method_32_code 42 = .ok (.laload, 1) := by decide +kernel
theorem d_X_productPlus_43 : decode prog_1_method_32_code 43 = .ok (.aload_n 0, 1) := by decide +kernel
theorem d_X_productPlus_44 : decode prog_1_method_32_code 44 = .ok (.getfield 13, 3) := by decide +kernel
theorem d_X_productPlus_47 : decode prog_1_method_32_code 47 = .ok (.iload_n 2, 1) := by decide +kernel
theorem d_X_productPlus_48 : decode prog_1_method_32_code 48 = .ok (.iaload, 1) := by decide +kernel
theorem d_X_productPlus_49 : decode prog_1_method_32_code 49 = .ok (.aload_n 0, 1) := by decide +kernel
theorem d_X_productPlus_50 : decode prog_1_method_32_code 50 = .ok (.getfield 13, 3) := by decide +kernel
theorem d_X_productPlus_53 : decode prog_1_method_32_code 53 = .ok (.iload_n 3, 1) := by decide +kernel
theorem d_X_productPlus_54 : decode prog_1_method_32_code 54 = .ok (.iaload, 1) := by decide +kernel
theorem d_X_productPlus_55 : decode prog_1_method_32_code 55 = .ok (.iadd, 1) := by decide +kernel
theorem d_X_productPlus_56 : decode prog_1_method_32_code 56 = .ok (.invokevirtual 66, 3) := by decide +kernel
theorem d_X_productPlus_59 : decode prog_1_method_32_code 59 = .ok (.aload_n 0, 1) := by decide +kernel
theorem d_X_productPlus_60 : decode prog_1_method_32_code 60 = .ok (.getfield 24, 3) := by decide +kernel
theorem d_X_productPlus_63 : decode prog_1_method_32_code 63 = .ok (.aload_n 0, 1) := by decide +kernel
theorem d_X_productPlus_64 : decode prog_1_method_32_code 64 = .ok (.getfield 9, 3) := by decide +kernel
theorem d_X_productPlus_67 : decode prog_1_method_32_code 67 = .ok (.iload 4, 2) := by decide +kernel
theorem d_X_productPlus_69 : decode prog_1_method_32_code 69 = .ok (.laload, 1) := by decide +kernel
theorem d_X_productPlus_70 : decode prog_1_method_32_code 70 = .ok (.aload_n 0, 1) := by decide +kernel
theorem d_X_productPlus_71 : decode prog_1_method_32_code 71 = .ok (.getfield 13, 3) := by decide +kernel
theorem d_X_productPlus_74 : decode prog_1_method_32_code 74 = .ok (.iload 4, 2) := by decide +kernel
theorem d_X_productPlus_76 : decode prog_1_method_32_code 76 = .ok (.iaload, 1) := by decide +kernel
theorem d_X_productPlus_77 : decode prog_1_method_32_code 77 = .ok (.invokevirtual 54, 3) := by decide +kernel
theorem d_X_productPlus_80 : decode prog_1_method_32_code 80 = .ok (.aload_n 0, 1) := by decide +kernel
theorem d_X_productPlus_81 : decode prog_1_method_32_code 81 = .ok (.iload_n 1, 1) := by decide +kernel
theorem d_X_productPlus_82 : decode prog_1_method_32_code 82 = .ok (.aload_n 0, 1) := by decide +kernel
theorem d_X_productPlus_83 : decode prog_1_method_32_code 83 = .ok (.getfield 20, 3) := by decide +kernel
theorem d_X_productPlus_86 : decode prog_1_method_32_code 86 = .ok (.aload_n 0, 1) := by decide +kernel
theorem d_X_productPlus_87 : decode prog_1_method_32_code 87 = .ok (.getfield 24, 3) := by decide +kernel
theorem d_X_productPlus_90 : decode prog_1_method_32_code 90 = .ok (.invokestatic 58, 3) := by decide +kernel
theorem d_X_productPlus_93 : decode prog_1_method_32_code 93 = .ok (.iload 5, 2) := by decide +kernel
theorem d_X_productPlus_95 : decode prog_1_method_32_code 95 = .ok (.invokevirtual 62, 3) := by decide +kernel
theorem d_X_productPlus_98 : decode prog_1_method_32_code 98 = .ok (.ireturn, 1) := by decide +kernel
theorem d_X_isFarGreater_0 : decode prog_1_method_33_code 0 = .ok (.aload_n 0, 1) := by decide +kernel
theorem d_X_isFarGreater_1 : decode prog_1_method_33_code 1 = .ok (.getfield 13, 3) := by decide +kernel
theorem d_X_isFarGreater_4 : decode prog_1_method_33_code 4 = .ok (.iload_n 1, 1) := by decide +kernel
theorem d_X_isFarGreater_5 : decode prog_1_method_33_code 5 = .ok (.iaload, 1) := by decide +kernel
theorem d_X_isFarGreater_6 : decode prog_1_method_33_code 6 = .ok (.aload_n 0, 1) := by decide +kernel
theorem d_X_isFarGreater_7 : decode prog_1_method_33_code 7 = .ok (.getfield 13, 3) := by decide +kernel
theorem d_X_isFarGreater_10 : decode prog_1_method_33_code 10 = .ok (.iload_n 2, 1) := by decide +kernel
theorem d_X_isFarGreater_11 : decode prog_1_method_33_code 11 = .ok (.iaload, 1) := by decide +kernel
theorem d_X_isFarGreater_12 : decode prog_1_method_33_code 12 = .ok (.isub, 1) := by decide +kernel
theorem d_X_isFarGreater_13 : decode prog_1_method_33_code 13 = .ok (.istore_n 3, 1) := by decide +kernel
theorem d_X_isFarGreater_14 : decode prog_1_method_33_code 14 = .ok (.aload_n 0, 1) := by decide +kernel
theorem d_X_isFarGreater_15 : decode prog_1_method_33_code 15 = .ok (.getfield 9, 3) := by decide +kernel
theorem d_X_isFarGreater_18 : decode prog_1_method_33_code 18 = .ok (.iload_n 1, 1) := by decide +kernel
theorem d_X_isFarGreater_19 : decode prog_1_method_33_code 19 = .ok (.laload, 1) := by decide +kernel
theorem d_X_isFarGreater_20 : decode prog_1_method_33_code 20 = .ok (.lconst 0, 1) := by decide +kernel
theorem d_X_isFarGreater_21 : decode prog_1_method_33_code 21 = .ok (.lcmp, 1) := by decide +kernel
theorem d_X_isFarGreater_22 : decode prog_1_method_33_code 22 = .ok (.ifCond .eq 9, 3) := by decide +kernel
theorem d_X_isFarGreater_25 : decode prog_1_method_33_code 25 = .ok (.iload_n 3, 1) := by decide +kernel
theorem d_X_isFarGreater_26 : decode prog_1_method_33_code 26 = .ok (.bipush 60, 2) := by decide +kernel
theorem d_X_isFarGreater_28 : decode prog_1_method_33_code 28 = .ok (.if_icmp .ge 5, 3) := by decide +kernel
theorem d_X_isFarGreater_31 : decode prog_1_method_33_code 31 = .ok (.iconst 0, 1) := by decide +kernel
theorem d_X_isFarGreater_32 : decode prog_1_method_33_code 32 = .ok (.ireturn, 1) := by decide +kernel
theorem d_X_isFarGreater_33 : decode prog_1_method_33_code 33 = .ok (.iload_n 3, 1) := by decide +kernel
theorem d_X_isFarGreater_34 : decode prog_1_method_33_code 34 = .ok (.bipush 60, 2) := by decide +kernel
theorem d_X_isFarGreater_36 : decode prog_1_method_33_code 36 = .ok (.if_icmp .gt 25, 3) := by decide +kernel
theorem d_X_isFarGreater_39 : decode prog_1_method_33_code 39 = .ok (.aload_n 0, 1) := by decide +kernel
theorem d_X_isFarGreater_40 : decode prog_1_method_33_code 40 = .ok (.getfield 9, 3) := by decide +kernel
theorem d_X_isFarGreater_43 : decode prog_1_method_33_code 43 = .ok (.iload_n 1, 1) := by decide +kernel
theorem d_X_isFarGreater_44 : decode prog_1_method_33_code 44 = .ok (.laload, 1) := by decide +kernel
theorem d_X_isFarGreater_45 : decode prog_1_method_33_code 45 = .ok (.invokestatic 84, 3) := by decide +kernel
theorem d_X_isFarGreater_48 : decode prog_1_method_33_code 48 = .ok (.aload_n 0, 1) := by decide +kernel
theorem d_X_isFarGreater_49 : decode prog_1_method_33_code 49 = .ok (.getfield 9, 3) := by decide +kernel
theorem d_X_isFarGreater_52 : decode prog_1_method_33_code 52 = .ok (.iload_n 2, 1) := by decide +kernel
theorem d_X_isFarGreater_53 : decode prog_1_method_33_code 53 = .ok (.laload, 1) := by decide +kernel
theorem d_X_isFarGreater_54 : decode prog_1_method_33_code 54 = .ok (.invokestatic 84, 3) := by decide +kernel
theorem d_X_isFarGreater_57 : decode prog_1_method_33_code 57 = .ok (.lcmp, 1) := by decide +kernel
theorem d_X_isFarGreater_58 : decode prog_1_method_33_code 58 = .ok (.ifCond .lt 7, 3) := by decide +kernel
theorem d_X_isFarGreater_61 : decode prog_1_method_33_code 61 = .ok (.iconst 1, 1) := by decide +kernel
theorem d_X_isFarGreater_62 : decode prog_1_method_33_code 62 = .ok (.goto 4, 3) := by decide +kernel
theorem d_X_isFarGreater_65 : decode prog_1_method_33_code 65 = .ok (.iconst 0, 1) := by decide +kernel
theorem d_X_isFarGreater_66 : decode prog_1_method_33_code 66 = .ok (.ireturn, 1) := by decide +kernel
theorem d_X_cubeOrder_0 : decode prog_1_method_36_code 0 = .ok (.aload_n 0, 1) := by decide +kernel
theorem d_X_cubeOrder_1 : decode prog_1_method_36_code 1 = .ok (.getfield 20, 3) := by decide +kernel
theorem d_X_cubeOrder_4 : decode prog_1_method_36_code 4 = .ok (.lload_n 1, 1) := by decide +kernel
theorem d_X_cubeOrder_5 : decode prog_1_method_36_code 5 = .ok (.lload_n 1, 1) := by decide +kernel
theorem d_X_cubeOrder_6 : decode prog_1_method_36_code 6 = .ok (.iconst 0, 1) := by decide +kernel
theorem d_X_cubeOrder_7 : decode prog_1_method_36_code 7 = .ok (.invokevirtual 66, 3) := by decide +kernel
theorem d_X_cubeOrder_10 : decode prog_1_method_36_code 10 = .ok (.aload_n 0, 1) := by decide +kernel
theorem d_X_cubeOrder_11 : decode prog_1_method_36_code 11 = .ok (.getfield 20, 3) := by decide +kernel
theorem d_X_cubeOrder_14 : decode prog_1_method_36_code 14 = .ok (.getfield 187, 3) := by decide +kernel
theorem d_X_cubeOrder_17 : decode prog_1_method_36_code 17 = .ok (.bipush 11, 2) := by decide +kernel
theorem d_X_cubeOrder_19 : decode prog_1_method_36_code 19 = .ok (.lshl, 1) := by decide +kernel
theorem d_X_cubeOrder_20 : decode prog_1_method_36_code 20 = .ok (.aload_n 0, 1) := by decide +kernel
theorem d_X_cubeOrder_21 : decode prog_1_method_36_code 21 = .ok (.getfield 20, 3) := by decide +kernel
theorem d_X_cubeOrder_24 : decode prog_1_method_36_code 24 = .ok (.getfield 177, 3) := by decide +kernel
theorem d_X_cubeOrder_27 : decode prog_1_method_36_code 27 = .ok (.bipush 53, 2) := by decide +kernel
theorem d_X_cubeOrder_29 : decode prog_1_method_36_code 29 = .ok (.lushr, 1) := by decide +kernel
theorem d_X_cubeOrder_30 : decode prog_1_method_36_code 30 = .ok (.lor, 1) := by decide +kernel
theorem d_X_cubeOrder_31 : decode prog_1_method_36_code 31 = .ok (.lstore 5, 2) := by decide +kernel
theorem d_X_cubeOrder_33 : decode prog_1_method_36_code 33 = .ok (.aload_n 0, 1) := by decide +kernel
theorem d_X_cubeOrder_34 : decode prog_1_method_36_code 34 = .ok (.getfield 20, 3) := by decide +kernel
theorem d_X_cubeOrder_37 : decode prog_1_method_36_code 37 = .ok (.getfield 177, 3) := by decide +kernel
theorem d_X_cubeOrder_40 : decode prog_1_method_36_code 40 = .ok (.ldc2_w 190, 3) := by decide +kernel
theorem d_X_cubeOrder_43 : decode prog_1_method_36_code 43 = .ok (.land, 1) := by decide +kernel
theorem d_X_cubeOrder_44 : decode prog_1_method_36_code 44 = .ok (.lstore 7, 2) := by decide +kernel
theorem d_X_cubeOrder_46 : decode prog_1_method_36_code 46 = .ok (.aload_n 0, 1) := by decide +kernel
theorem d_X_cubeOrder_47 : decode prog_1_method_36_code 47 = .ok (.getfield 20, 3) := by decide +kernel
theorem d_X_cubeOrder_50 : decode prog_1_method_36_code 50 = .ok (.lload 5, 2) := by decide +kernel
theorem d_X_cubeOrder_52 : decode prog_1_method_36_code 52 = .ok (.lload_n 1, 1) := by decide +kernel
theorem d_X_cubeOrder_53 : decode prog_1_method_36_code 53 = .ok (.iconst 3, 1) := by decide +kernel
theorem d_X_cubeOrder_54 : decode prog_1_method_36_code 54 = .ok (.iload_n 3, 1) := by decide +kernel
theorem d_X_cubeOrder_55 : decode prog_1_method_36_code 55 = .ok (.imul, 1) := by decide +kernel
theorem d_X_cubeOrder_56 : decode prog_1_method_36_code 56 = .ok (.bipush 53, 2) := by decide +kernel
theorem d_X_cubeOrder_58 : decode prog_1_method_36_code 58 = .ok (.iadd, 1) := by decide +kernel
theorem d_X_cubeOrder_59 : decode prog_1_method_36_code 59 = .ok (.invokevirtual 66, 3) := by decide +kernel
theorem d_X_cubeOrder_62 : decode prog_1_method_36_code 62 = .ok (.aload_n 0, 1) := by decide +kernel
theorem d_X_cubeOrder_63 : decode prog_1_method_36_code 63 = .ok (.getfield 24, 3) := by decide +kernel
theorem d_X_cubeOrder_66 : decode prog_1_method_36_code 66 = .ok (.lload 7, 2) := by decide +kernel
theorem d_X_cubeOrder_68 : decode prog_1_method_36_code 68 = .ok (.lload_n 1, 1) := by decide +kernel
theorem d_X_cubeOrder_69 : decode prog_1_method_36_code 69 = .ok (.iconst 3, 1) := by decide +kernel
theorem d_X_cubeOrder_70 : decode prog_1_method_36_code 70 = .ok (.iload_n 3, 1) := by decide +kernel
theorem d_X_cubeOrder_71 : decode prog_1_method_36_code 71 = .ok (.imul, 1) := by decide +kernel
theorem d_X_cubeOrder_72 : decode prog_1_method_36_code 72 = .ok (.invokevirtual 66, 3) := by decide +kernel
theorem d_X_cubeOrder_75 : decode prog_1_method_36_code 75 = .ok (.aload_n 0, 1) := by decide +kernel
theorem d_X_cubeOrder_76 : decode prog_1_method_36_code 76 = .ok (.getfield 27, 3) := by decide +kernel
theorem d_X_cubeOrder_79 : decode prog_1_method_36_code 79 = .ok (.aload_n 0, 1) := by decide +kernel
theorem d_X_cubeOrder_80 : decode prog_1_method_36_code 80 = .ok (.getfield 9, 3) := by decide +kernel
theorem d_X_cubeOrder_83 : decode prog_1_method_36_code 83 = .ok (.iload 4, 2) := by decide +kernel
theorem d_X_cubeOrder_85 : decode prog_1_method_36_code 85 = .ok (.laload, 1) := by decide +kernel
theorem d_X_cubeOrder_86 : decode prog_1_method_36_code 86 = .ok (.invokestatic 84, 3) := by decide +kernel
theorem d_X_cubeOrder_89 : decode prog_1_method_36_code 89 = .ok (.aload_n 0, 1) := by decide +kernel
theorem d_X_cubeOrder_90 : decode prog_1_method_36_code 90 = .ok (.getfield 13, 3) := by decide +kernel
theorem d_X_cubeOrder_93 : decode prog_1_method_36_code 93 = .ok (.iload 4, 2) := by decide +kernel
theorem d_X_cubeOrder_95 : decode prog_1_method_36_code 95 = .ok (.iaload, 1) := by decide +kernel
theorem d_X_cubeOrder_96 : decode prog_1_method_36_code 96 = .ok (.invokevirtual 54, 3) := by decide +kernel
theorem d_X_cubeOrder_99 : decode prog_1_method_36_code 99 = .ok (.aload_n 0, 1) := by decide +kernel
theorem d_X_cubeOrder_100 : decode prog_1_method_36_code 100 = .ok (.getfield 20, 3) := by decide +kernel
theorem d_X_cubeOrder_103 : decode prog_1_method_36_code 103 = .ok (.aload_n 0, 1) := by decide +kernel
theorem d_X_cubeOrder_104 : decode prog_1_method_36_code 104 = .ok (.getfield 24, 3) := by decide +kernel
theorem d_X_cubeOrder_107 : decode prog_1_method_36_code 107 = .ok (.invokestatic 58, 3) := by decide +kernel
theorem d_X_cubeOrder_110 : decode prog_1_method_36_code 110 = .ok (.aload_n 0, 1) := by decide +kernel
theorem d_X_cubeOrder_111 : decode prog_1_method_36_code 111 = .ok (.getfield 27, 3) := by decide +kernel
theorem d_X_cubeOrder_114 : decode prog_1_method_36_code 114 = .ok (.invokevirtual 192, 3) := by decide +kernel
theorem d_X_cubeOrder_117 : decode prog_1_method_36_code 117 = .ok (.ireturn, 1) := by decide +kernel
theorem d_X_set_0 : decode prog_1_method_2_code 0 = .ok (.iload_n 1, 1) := by decide +kernel
theorem d_X_set_1 : decode prog_1_method_2_code 1 = .ok (.invokestatic 30, 3) := by decide +kernel
theorem d_X_set_4 : decode prog_1_method_2_code 4 = .ok (.ifCond .eq 35, 3) := by decide +kernel
theorem d_X_set_7 : decode prog_1_method_2_code 7 = .ok (.lload_n 2, 1) := by decide +kernel
theorem d_X_set_8 : decode prog_1_method_2_code 8 = .ok (.ldc2_w 34, 3) := by decide +kernel
theorem d_X_set_11 : decode prog_1_method_2_code 11 = .ok (.lcmp, 1) := by decide +kernel
theorem d_X_set_12 : decode prog_1_method_2_code 12 = .ok (.ifCond .le 27, 3) := by decide +kernel
theorem d_X_set_15 : decode prog_1_method_2_code 15 = .ok (.lload_n 2, 1) := by decide +kernel
theorem d_X_set_16 : decode prog_1_method_2_code 16 = .ok (.ldc2_w 36, 3) := by decide +kernel
theorem d_X_set_19 : decode prog_1_method_2_code 19 = .ok (.lcmp, 1) := by decide +kernel
theorem d_X_set_20 : decode prog_1_method_2_code 20 = .ok (.ifCond .ge 19, 3) := by decide +kernel
theorem d_X_set_23 : decode prog_1_method_2_code 23 = .ok (.iload 4, 2) := by decide +kernel
theorem d_X_set_25 : decode prog_1_method_2_code 25 = .ok (.sipush (-250), 3) := by decide +kernel
theorem d_X_set_28 : decode prog_1_method_2_code 28 = .ok (.if_icmp .lt 11, 3) := by decide +kernel
theorem d_X_set_31 : decode prog_1_method_2_code 31 = .ok (.iload 4, 2) := by decide +kernel
theorem d_X_set_33 : decode prog_1_method_2_code 33 = .ok (.sipush 250, 3) := by decide +kernel
theorem d_X_set_36 : decode prog_1_method_2_code 36 = .ok (.if_icmp .le 5, 3) := by decide +kernel
theorem d_X_set_39 : decode prog_1_method_2_code 39 = .ok (.iconst (-1), 1) := by decide +kernel
theorem d_X_set_40 : decode prog_1_method_2_code 40 = .ok (.ireturn, 1) := by decide +kernel
theorem d_X_set_41 : decode prog_1_method_2_code 41 = .ok (.lload_n 2, 1) := by decide +kernel
theorem d_X_set_42 : decode prog_1_method_2_code 42 = .ok (.iload 4, 2) := by decide +kernel
theorem d_X_set_44 : decode prog_1_method_2_code 44 = .ok (.invokestatic 38, 3) := by decide +kernel
theorem d_X_set_47 : decode prog_1_method_2_code 47 = .ok (.ifCond .ne 8, 3) := by decide +kernel
theorem d_X_set_50 : decode prog_1_method_2_code 50 = .ok (.aload_n 0, 1) := by decide +kernel
theorem d_X_set_51 : decode prog_1_method_2_code 51 = .ok (.invokevirtual 42, 3) := by decide +kernel
theorem d_X_set_54 : decode prog_1_method_2_code 54 = .ok (.ireturn, 1) := by decide +kernel
theorem d_X_set_55 : decode prog_1_method_2_code 55 = .ok (.aload_n 0, 1) := by decide +kernel
theorem d_X_set_56 : decode prog_1_method_2_code 56 = .ok (.iload_n 1, 1) := by decide +kernel
theorem d_X_set_57 : decode prog_1_method_2_code 57 = .ok (.lload_n 2, 1) := by decide +kernel
theorem d_X_set_58 : decode prog_1_method_2_code 58 = .ok (.iload 4, 2) := by decide +kernel
theorem d_X_set_60 : decode prog_1_method_2_code 60 = .ok (.invokevirtual 46, 3) := by decide +kernel
theorem d_X_set_63 : decode prog_1_method_2_code 63 = .ok (.iconst 0, 1) := by decide +kernel
theorem d_X_set_64 : decode prog_1_method_2_code 64 = .ok (.ireturn, 1) := by decide +kernel
theorem d_X_add_0 : decode prog_1_method_3_code 0 = .ok (.aload_n 0, 1) := by decide +kernel
theorem d_X_add_1 : decode prog_1_method_3_code 1 = .ok (.iload_n 1, 1) := by decide +kernel
theorem d_X_add_2 : decode prog_1_method_3_code 2 = .ok (.iload_n 2, 1) := by decide +kernel
theorem d_X_add_3 : decode prog_1_method_3_code 3 = .ok (.iload_n 3, 1) := by decide +kernel
theorem d_X_add_4 : decode prog_1_method_3_code 4 = .ok (.iload 4, 2) := by decide +kernel
theorem d_X_add_6 : decode prog_1_method_3_code 6 = .ok (.invokevirtual 50, 3) := by decide +kernel
theorem d_X_add_9 : decode prog_1_method_3_code 9 = .ok (.ifCond .ne 5, 3) := by decide +kernel
theorem d_X_add_12 : decode prog_1_method_3_code 12 = .ok (.iconst (-1), 1) := by decide +kernel
theorem d_X_add_13 : decode prog_1_method_3_code 13 = .ok (.ireturn, 1) := by decide +kernel
theorem d_X_add_14 : decode prog_1_method_3_code 14 = .ok (.aload_n 0, 1) := by decide +kernel
theorem d_X_add_15 : decode prog_1_method_3_code 15 = .ok (.getfield 20, 3) := by decide +kernel
theorem d_X_add_18 : decode prog_1_method_3_code 18 = .ok (.aload_n 0, 1) := by decide +kernel
theorem d_X_add_19 : decode prog_1_method_3_code 19 = .ok (.getfield 9, 3) := by decide +kernel
theorem d_X_add_22 : decode prog_1_method_3_code 22 = .ok (.iload_n 2, 1) := by decide +kernel
theorem d_X_add_23 : decode prog_1_method_3_code 23 = .ok (.laload, 1) := by decide +kernel
theorem d_X_add_24 : decode prog_1_method_3_code 24 = .ok (.aload_n 0, 1) := by decide +kernel
theorem d_X_add_25 : decode prog_1_method_3_code 25 = .ok (.getfield 13, 3) := by decide +kernel
theorem d_X_add_28 : decode prog_1_method_3_code 28 = .ok (.iload_n 2, 1) := by decide +kernel
theorem d_X_add_29 : decode prog_1_method_3_code 29 = .ok (.iaload, 1) := by decide +kernel
theorem d_X_add_30 : decode prog_1_method_3_code 30 = .ok (.invokevirtual 54, 3) := by decide +kernel
theorem d_X_add_33 : decode prog_1_method_3_code 33 = .ok (.aload_n 0, 1) := by decide +kernel
theorem d_X_add_34 : decode prog_1_method_3_code 34 = .ok (.getfield 24, 3) := by decide +kernel
theorem d_X_add_37 : decode prog_1_method_3_code 37 = .ok (.aload_n 0, 1) := by decide +kernel
theorem d_X_add_38 : decode prog_1_method_3_code 38 = .ok (.getfield 9, 3) := by decide +kernel
theorem d_X_add_41 : decode prog_1_method_3_code 41 = .ok (.iload_n 3, 1) := by decide +kernel
theorem d_X_add_42 : decode prog_1_method_3_code 42 = .ok (.laload, 1) := by decide +kernel
theorem d_X_add_43 : decode prog_1_method_3_code 43 = .ok (.aload_n 0, 1) := by decide +kernel
theorem d_X_add_44 : decode prog_1_method_3_code 44 = .ok (.getfield 13, 3) := by decide +kernel
theorem d_X_add_47 : decode prog_1_method_3_code 47 = .ok (.iload_n 3, 1) := by decide +kernel
theorem d_X_add_48 : decode prog_1_method_3_code 48 = .ok (.iaload, 1) := by decide +kernel
theorem d_X_add_49 : decode prog_1_method_3_code 49 = .ok (.invokevirtual 54, 3) := by decide +kernel
theorem d_X_add_52 : decode prog_1_method_3_code 52 = .ok (.aload_n 0, 1) := by decide +kernel
theorem d_X_add_53 : decode prog_1_method_3_code 53 = .ok (.iload_n 1, 1) := by decide +kernel
theorem d_X_add_54 : decode prog_1_method_3_code 54 = .ok (.aload_n 0, 1) := by decide +kernel
theorem d_X_add_55 : decode prog_1_method_3_code 55 = .ok (.getfield 20, 3) := by decide +kernel
theorem d_X_add_58 : decode prog_1_method_3_code 58 = .ok (.aload_n 0, 1) := by decide +kernel
theorem d_X_add_59 : decode prog_1_method_3_code 59 = .ok (.getfield 24, 3) := by decide +kernel
theorem d_X_add_62 : decode prog_1_method_3_code 62 = .ok (.invokestatic 58, 3) := by decide +kernel
theorem d_X_add_65 : decode prog_1_method_3_code 65 = .ok (.iload 4, 2) := by decide +kernel
theorem d_X_add_67 : decode prog_1_method_3_code 67 = .ok (.invokevirtual 62, 3) := by decide +kernel
theorem d_X_add_70 : decode prog_1_method_3_code 70 = .ok (.ireturn, 1) := by decide +kernel
theorem d_X_subtract_0 : decode prog_1_method_4_code 0 = .ok (.aload_n 0, 1) := by decide +kernel
theorem d_X_subtract_1 : decode prog_1_method_4_code 1 = .ok (.iload_n 1, 1) := by decide +kernel
theorem d_X_subtract_2 : decode prog_1_method_4_code 2 = .ok (.iload_n 2, 1) := by decide +kernel
theorem d_X_subtract_3 : decode prog_1_method_4_code 3 = .ok (.iload_n 3, 1) := by decide +kernel
theorem d_X_subtract_4 : decode prog_1_method_4_code 4 = .ok (.iload 4, 2) := by decide +kernel
theorem d_X_subtract_6 : decode prog_1_method_4_code 6 = .ok (.invokevirtual 50, 3) := by decide +kernel
theorem d_X_subtract_9 : decode prog_1_method_4_code 9 = .ok (.ifCond .ne 5, 3) := by decide +kernel
theorem d_X_subtract_12 : decode prog_1_method_4_code 12 = .ok (.iconst (-1), 1) := by decide +kernel
theorem d_X_subtract_13 : decode prog_1_method_4_code 13 = .ok (.ireturn, 1) := by decide +kernel
theorem d_X_subtract_14 : decode prog_1_method_4_code 14 = .ok (.aload_n 0, 1) := by decide +kernel
theorem d_X_subtract_15 : decode prog_1_method_4_code 15 = .ok (.getfield 20, 3) := by decide +kernel
theorem d_X_subtract_18 : decode prog_1_method_4_code 18 = .ok (.aload_n 0, 1) := by decide +kernel
theorem d_X_subtract_19 : decode prog_1_method_4_code 19 = .ok (.getfield 9, 3) := by decide +kernel
theorem d_X_subtract_22 : decode prog_1_method_4_code 22 = .ok (.iload_n 2, 1) := by decide +kernel
theorem d_X_subtract_23 : decode prog_1_method_4_code 23 = .ok (.laload, 1) := by decide +kernel
theorem d_X_subtract_24 : decode prog_1_method_4_code 24 = .ok (.aload_n 0, 1) := by decide +kernel
theorem d_X_subtract_25 : decode prog_1_method_4_code 25 = .ok (.getfield 13, 3) := by decide +kernel
theorem d_X_subtract_28 : decode prog_1_method_4_code 28 = .ok (.iload_n 2, 1) := by decide +kernel
theorem d_X_subtract_29 : decode prog_1_method_4_code 29 = .ok (.iaload, 1) := by decide +kernel
theorem d_X_subtract_30 : decode prog_1_method_4_code 30 = .ok (.invokevirtual 54, 3) := by decide +kernel
theorem d_X_subtract_33 : decode prog_1_method_4_code 33 = .ok (.aload_n 0, 1) := by decide +kernel
theorem d_X_subtract_34 : decode prog_1_method_4_code 34 = .ok (.getfield 24, 3) := by decide +kernel
theorem d_X_subtract_37 : decode prog_1_method_4_code 37 = .ok (.aload_n 0, 1) := by decide +kernel
theorem d_X_subtract_38 : decode prog_1_method_4_code 38 = .ok (.getfield 9, 3) := by decide +kernel
theorem d_X_subtract_41 : decode prog_1_method_4_code 41 = .ok (.iload_n 3, 1) := by decide +kernel
theorem d_X_subtract_42 : decode prog_1_method_4_code 42 = .ok (.laload, 1) := by decide +kernel
theorem d_X_subtract_43 : decode prog_1_method_4_code 43 = .ok (.lneg, 1) := by decide +kernel
theorem d_X_subtract_44 : decode prog_1_method_4_code 44 = .ok (.aload_n 0, 1) := by decide +kernel
theorem d_X_subtract_45 : decode prog_1_method_4_code 45 = .ok (.getfield 13, 3) := by decide +kernel
theorem d_X_subtract_48 : decode prog_1_method_4_code 48 = .ok (.iload_n 3, 1) := by decide +kernel
theorem d_X_subtract_49 : decode prog_1_method_4_code 49 = .ok (.iaload, 1) := by decide +kernel
theorem d_X_subtract_50 : decode prog_1_method_4_code 50 = .ok (.invokevirtual 54, 3) := by decide +kernel
theorem d_X_subtract_53 : decode prog_1_method_4_code 53 = .ok (.aload_n 0, 1) := by decide +kernel
theorem d_X_subtract_54 : decode prog_1_method_4_code 54 = .ok (.iload_n 1, 1) := by decide +kernel
theorem d_X_subtract_55 : decode prog_1_method_4_code 55 = .ok (.aload_n 0, 1) := by decide +kernel
theorem d_X_subtract_56 : decode prog_1_method_4_code 56 = .ok (.getfield 20, 3) := by decide +kernel
theorem d_X_subtract_59 : decode prog_1_method_4_code 59 = .ok (.aload_n 0, 1) := by decide +kernel
theorem d_X_subtract_60 : decode prog_1_method_4_code 60 = .ok (.getfield 24, 3) := by decide +kernel
theorem d_X_subtract_63 : decode prog_1_method_4_code 63 = .ok (.invokestatic 58, 3) := by decide +kernel
theorem d_X_subtract_66 : decode prog_1_method_4_code 66 = .ok (.iload 4, 2) := by decide +kernel
theorem d_X_subtract_68 : decode prog_1_method_4_code 68 = .ok (.invokevirtual 62, 3) := by decide +kernel
theorem d_X_subtract_71 : decode prog_1_method_4_code 71 = .ok (.ireturn, 1) := by decide +kernel
theorem d_X_multiply_0 : decode prog_1_method_5_code 0 = .ok (.aload_n 0, 1) := by decide +kernel
theorem d_X_multiply_1 : decode prog_1_method_5_code 1 = .ok (.iload_n 1, 1) := by decide +kernel
theorem d_X_multiply_2 : decode prog_1_method_5_code 2 = .ok (.iload_n 2, 1) := by decide +kernel
theorem d_X_multiply_3 : decode prog_1_method_5_code 3 = .ok (.iload_n 3, 1) := by decide +kernel
theorem d_X_multiply_4 : decode prog_1_method_5_code 4 = .ok (.iload 4, 2) := by decide +kernel
theorem d_X_multiply_6 : decode prog_1_method_5_code 6 = .ok (.invokevirtual 50, 3) := by decide +kernel
theorem d_X_multiply_9 : decode prog_1_method_5_code 9 = .ok (.ifCond .ne 5, 3) := by decide +kernel
theorem d_X_multiply_12 : decode prog_1_method_5_code 12 = .ok (.iconst (-1), 1) := by decide +kernel
theorem d_X_multiply_13 : decode prog_1_method_5_code 13 = .ok (.ireturn, 1) := by decide +kernel
theorem d_X_multiply_14 : decode prog_1_method_5_code 14 = .ok (.aload_n 0, 1) := by decide +kernel
theorem d_X_multiply_15 : decode prog_1_method_5_code 15 = .ok (.getfield 20, 3) := by decide +kernel
theorem d_X_multiply_18 : decode prog_1_method_5_code 18 = .ok (.aload_n 0, 1) := by decide +kernel
theorem d_X_multiply_19 : decode prog_1_method_5_code 19 = .ok (.getfield 9, 3) := by decide +kernel
theorem d_X_multiply_22 : decode prog_1_method_5_code 22 = .ok (.iload_n 2, 1) := by decide +kernel
theorem d_X_multiply_23 : decode prog_1_method_5_code 23 = .ok (.laload, 1) := by decide +kernel
theorem d_X_multiply_24 : decode prog_1_method_5_code 24 = .ok (.aload_n 0, 1) := by decide +kernel
theorem d_X_multiply_25 : decode prog_1_method_5_code 25 = .ok (.getfield 9, 3) := by decide +kernel
theorem d_X_multiply_28 : decode prog_1_method_5_code 28 = .ok (.iload_n 3, 1) := by decide +kernel
theorem d_X_multiply_29 : decode prog_1_method_5_code 29 = .ok (.laload, 1) := by decide +kernel
theorem d_X_multiply_30 : decode prog_1_method_5_code 30 = .ok (.aload_n 0, 1) := by decide +kernel
theorem d_X_multiply_31 : decode prog_1_method_5_code 31 = .ok (.getfield 13, 3) := by decide +kernel
theorem d_X_multiply_34 : decode prog_1_method_5_code 34 = .ok (.iload_n 2, 1) := by decide +kernel
theorem d_X_multiply_35 : decode prog_1_method_5_code 35 = .ok (.iaload, 1) := by decide +kernel
theorem d_X_multiply_36 : decode prog_1_method_5_code 36 = .ok (.aload_n 0, 1) := by decide +kernel
theorem d_X_multiply_37 : decode prog_1_method_5_code 37 = .ok (.getfield 13, 3) := by decide +kernel
theorem d_X_multiply_40 : decode prog_1_method_5_code 40 = .ok (.iload_n 3, 1) := by decide +kernel
theorem d_X_multiply_41 : decode prog_1_method_5_code 41 = .ok (.iaload, 1) := by decide +kernel
theorem d_X_multiply_42 : decode prog_1_method_5_code 42 = .ok (.iadd, 1) := by decide +kernel
theorem d_X_multiply_43 : decode prog_1_method_5_code 43 = .ok (.invokevirtual 66, 3) := by decide +kernel
theorem d_X_multiply_46 : decode prog_1_method_5_code 46 = .ok (.aload_n 0, 1) := by decide +kernel
theorem d_X_multiply_47 : decode prog_1_method_5_code 47 = .ok (.iload_n 1, 1) := by decide +kernel
theorem d_X_multiply_48 : decode prog_1_method_5_code 48 = .ok (.aload_n 0, 1) := by decide +kernel
theorem d_X_multiply_49 : decode prog_1_method_5_code 49 = .ok (.getfield 20, 3) := by decide +kernel
theorem d_X_multiply_52 : decode prog_1_method_5_code 52 = .ok (.iload 4, 2) := by decide +kernel
theorem d_X_multiply_54 : decode prog_1_method_5_code 54 = .ok (.invokevirtual 62, 3) := by decide +kernel
theorem d_X_multiply_57 : decode prog_1_method_5_code 57 = .ok (.ireturn, 1) := by decide +kernel
theorem d_X_divide_0 : decode prog_1_method_6_code 0 = .ok (.aload_n 0, 1) := by decide +kernel
theorem d_X_divide_1 : decode prog_1_method_6_code 1 = .ok (.iload_n 1, 1) := by decide +kernel
theorem d_X_divide_2 : decode prog_1_method_6_code 2 = .ok (.iload_n 2, 1) := by decide +kernel
theorem d_X_divide_3 : decode prog_1_method_6_code 3 = .ok (.iload_n 3, 1) := by decide +kernel
theorem d_X_divide_4 : decode prog_1_method_6_code 4 = .ok (.iload 4, 2) := by decide +kernel
theorem d_X_divide_6 : decode prog_1_method_6_code 6 = .ok (.invokevirtual 50, 3) := by decide +kernel
theorem d_X_divide_9 : decode prog_1_method_6_code 9 = .ok (.ifCond .eq 14, 3) := by decide +kernel
theorem d_X_divide_12 : decode prog_1_method_6_code 12 = .ok (.aload_n 0, 1) := by decide +kernel
theorem d_X_divide_13 : decode prog_1_method_6_code 13 = .ok (.getfield 9, 3) := by decide +kernel
theorem d_X_divide_16 : decode prog_1_method_6_code 16 = .ok (.iload_n 3, 1) := by decide +kernel
theorem d_X_divide_17 : decode prog_1_method_6_code 17 = .ok (.laload, 1) := by decide +kernel
theorem d_X_divide_18 : decode prog_1_method_6_code 18 = .ok (.lconst 0, 1) := by decide +kernel
theorem d_X_divide_19 : decode prog_1_method_6_code 19 = .ok (.lcmp, 1) := by decide +kernel
theorem d_X_divide_20 : decode prog_1_method_6_code 20 = .ok (.ifCond .ne 5, 3) := by decide +kernel
theorem d_X_divide_23 : decode prog_1_method_6_code 23 = .ok (.iconst (-1), 1) := by decide +kernel
theorem d_X_divide_24 : decode prog_1_method_6_code 24 = .ok (.ireturn, 1) := by decide +kernel
theorem d_X_divide_25 : decode prog_1_method_6_code 25 = .ok (.aload_n 0, 1) := by decide +kernel
theorem d_X_divide_26 : decode prog_1_method_6_code 26 = .ok (.getfield 20, 3) := by decide +kernel
theorem d_X_divide_29 : decode prog_1_method_6_code 29 = .ok (.aload_n 0, 1) := by decide +kernel
theorem d_X_divide_30 : decode prog_1_method_6_code 30 = .ok (.getfield 9, 3) := by decide +kernel
theorem d_X_divide_33 : decode prog_1_method_6_code 33 = .ok (.iload_n 2, 1) := by decide +kernel
theorem d_X_divide_34 : decode prog_1_method_6_code 34 = .ok (.laload, 1) := by decide +kernel
theorem d_X_divide_35 : decode prog_1_method_6_code 35 = .ok (.aload_n 0, 1) := by decide +kernel
theorem d_X_divide_36 : decode prog_1_method_6_code 36 = .ok (.getfield 9, 3) := by decide +kernel
theorem d_X_divide_39 : decode prog_1_method_6_code 39 = .ok (.iload_n 3, 1) := by decide +kernel
theorem d_X_divide_40 : decode prog_1_method_6_code 40 = .ok (.laload, 1) := by decide +kernel
theorem d_X_divide_41 : decode prog_1_method_6_code 41 = .ok (.aload_n 0, 1) := by decide +kernel
theorem d_X_divide_42 : decode prog_1_method_6_code 42 = .ok (.getfield 13, 3) := by decide +kernel
theorem d_X_divide_45 : decode prog_1_method_6_code 45 = .ok (.iload_n 2, 1) := by decide +kernel
theorem d_X_divide_46 : decode prog_1_method_6_code 46 = .ok (.iaload, 1) := by decide +kernel
theorem d_X_divide_47 : decode prog_1_method_6_code 47 = .ok (.aload_n 0, 1) := by decide +kernel
theorem d_X_divide_48 : decode prog_1_method_6_code 48 = .ok (.getfield 13, 3) := by decide +kernel
theorem d_X_divide_51 : decode prog_1_method_6_code 51 = .ok (.iload_n 3, 1) := by decide +kernel
theorem d_X_divide_52 : decode prog_1_method_6_code 52 = .ok (.iaload, 1) := by decide +kernel
theorem d_X_divide_53 : decode prog_1_method_6_code 53 = .ok (.isub, 1) := by decide +kernel
theorem d_X_divide_54 : decode prog_1_method_6_code 54 = .ok (.invokevirtual 70, 3) := by decide +kernel
theorem d_X_divide_57 : decode prog_1_method_6_code 57 = .ok (.aload_n 0, 1) := by decide +kernel
theorem d_X_divide_58 : decode prog_1_method_6_code 58 = .ok (.iload_n 1, 1) := by decide +kernel
theorem d_X_divide_59 : decode prog_1_method_6_code 59 = .ok (.aload_n 0, 1) := by decide +kernel
theorem d_X_divide_60 : decode prog_1_method_6_code 60 = .ok (.getfield 20, 3) := by decide +kernel
theorem d_X_divide_63 : decode prog_1_method_6_code 63 = .ok (.iload 4, 2) := by decide +kernel
theorem d_X_divide_65 : decode prog_1_method_6_code 65 = .ok (.invokevirtual 62, 3) := by decide +kernel
theorem d_X_divide_68 : decode prog_1_method_6_code 68 = .ok (.ireturn, 1) := by decide +kernel
theorem d_X_fuse_0 : decode prog_1_method_7_code 0 = .ok (.aload_n 0, 1) := by decide +kernel
theorem d_X_fuse_1 : decode prog_1_method_7_code 1 = .ok (.iload_n 1, 1) := by decide +kernel
theorem d_X_fuse_2 : decode prog_1_method_7_code 2 = .ok (.iload_n 2, 1) := by decide +kernel
theorem d_X_fuse_3 : decode prog_1_method_7_code 3 = .ok (.iload_n 3, 1) := by decide +kernel
theorem d_X_fuse_4 : decode prog_1_method_7_code 4 = .ok (.iload 4, 2) := by decide +kernel
theorem d_X_fuse_6 : decode prog_1_method_7_code 6 = .ok (.iconst 0, 1) := by decide +kernel
theorem d_X_fuse_7 : decode prog_1_method_7_code 7 = .ok (.invokevirtual 73, 3) := by decide +kernel
theorem d_X_fuse_10 : decode prog_1_method_7_code 10 = .ok (.ireturn, 1) := by decide +kernel
theorem d_X_fuseNarrow_0 : decode prog_1_method_8_code 0 = .ok (.aload_n 0, 1) := by decide +kernel
theorem d_X_fuseNarrow_1 : decode prog_1_method_8_code 1 = .ok (.iload_n 1, 1) := by decide +kernel
theorem d_X_fuseNarrow_2 : decode prog_1_method_8_code 2 = .ok (.iload_n 2, 1) := by decide +kernel
theorem d_X_fuseNarrow_3 : decode prog_1_method_8_code 3 = .ok (.iload_n 3, 1) := by decide +kernel
theorem d_X_fuseNarrow_4 : decode prog_1_method_8_code 4 = .ok (.iload 4, 2) := by decide +kernel
theorem d_X_fuseNarrow_6 : decode prog_1_method_8_code 6 = .ok (.iconst 1, 1) := by decide +kernel
theorem d_X_fuseNarrow_7 : decode prog_1_method_8_code 7 = .ok (.invokevirtual 73, 3) := by decide +kernel
theorem d_X_fuseNarrow_10 : decode prog_1_method_8_code 10 = .ok (.ireturn, 1) := by decide +kernel
theorem d_X_root_0 : decode prog_1_method_9_code 0 = .ok (.aload_n 0, 1) := by decide +kernel
theorem d_X_root_1 : decode prog_1_method_9_code 1 = .ok (.iload_n 1, 1) := by decide +kernel
theorem d_X_root_2 : decode prog_1_method_9_code 2 = .ok (.iload_n 2, 1) := by decide +kernel
theorem d_X_root_3 : decode prog_1_method_9_code 3 = .ok (.iload_n 2, 1) := by decide +kernel
theorem d_X_root_4 : decode prog_1_method_9_code 4 = .ok (.iload_n 3, 1) := by decide +kernel
theorem d_X_root_5 : decode prog_1_method_9_code 5 = .ok (.invokevirtual 50, 3) := by decide +kernel
theorem d_X_root_8 : decode prog_1_method_9_code 8 = .ok (.ifCond .eq 14, 3) := by decide +kernel
theorem d_X_root_11 : decode prog_1_method_9_code 11 = .ok (.aload_n 0, 1) := by decide +kernel
theorem d_X_root_12 : decode prog_1_method_9_code 12 = .ok (.getfield 9, 3) := by decide +kernel
theorem d_X_root_15 : decode prog_1_method_9_code 15 = .ok (.iload_n 2, 1) := by decide +kernel
theorem d_X_root_16 : decode prog_1_method_9_code 16 = .ok (.laload, 1) := by decide +kernel
theorem d_X_root_17 : decode prog_1_method_9_code 17 = .ok (.lconst 0, 1) := by decide +kernel
theorem d_X_root_18 : decode prog_1_method_9_code 18 = .ok (.lcmp, 1) := by decide +kernel
theorem d_X_root_19 : decode prog_1_method_9_code 19 = .ok (.ifCond .ge 5, 3) := by decide +kernel
theorem d_X_root_22 : decode prog_1_method_9_code 22 = .ok (.iconst (-1), 1) := by decide +kernel
theorem d_X_root_23 : decode prog_1_method_9_code 23 = .ok (.ireturn, 1) := by decide +kernel
theorem d_X_root_24 : decode prog_1_method_9_code 24 = .ok (.aload_n 0, 1) := by decide +kernel
theorem d_X_root_25 : decode prog_1_method_9_code 25 = .ok (.getfield 20, 3) := by decide +kernel
theorem d_X_root_28 : decode prog_1_method_9_code 28 = .ok (.aload_n 0, 1) := by decide +kernel
theorem d_X_root_29 : decode prog_1_method_9_code 29 = .ok (.getfield 9, 3) := by decide +kernel
theorem d_X_root_32 : decode prog_1_method_9_code 32 = .ok (.iload_n 2, 1) := by decide +kernel
theorem d_X_root_33 : decode prog_1_method_9_code 33 = .ok (.laload, 1) := by decide +kernel
theorem d_X_root_34 : decode prog_1_method_9_code 34 = .ok (.aload_n 0, 1) := by decide +kernel
theorem d_X_root_35 : decode prog_1_method_9_code 35 = .ok (.getfield 13, 3) := by decide +kernel
theorem d_X_root_38 : decode prog_1_method_9_code 38 = .ok (.iload_n 2, 1) := by decide +kernel
theorem d_X_root_39 : decode prog_1_method_9_code 39 = .ok (.iaload, 1) := by decide +kernel
theorem d_X_root_40 : decode prog_1_method_9_code 40 = .ok (.invokevirtual 77, 3) := by decide +kernel
theorem d_X_root_43 : decode prog_1_method_9_code 43 = .ok (.aload_n 0, 1) := by decide +kernel
theorem d_X_root_44 : decode prog_1_method_9_code 44 = .ok (.iload_n 1, 1) := by decide +kernel
theorem d_X_root_45 : decode prog_1_method_9_code 45 = .ok (.aload_n 0, 1) := by decide +kernel
theorem d_X_root_46 : decode prog_1_method_9_code 46 = .ok (.getfield 20, 3) := by decide +kernel
theorem d_X_root_49 : decode prog_1_method_9_code 49 = .ok (.iload_n 3, 1) := by decide +kernel
theorem d_X_root_50 : decode prog_1_method_9_code 50 = .ok (.invokevirtual 62, 3) := by decide +kernel
theorem d_X_root_53 : decode prog_1_method_9_code 53 = .ok (.ireturn, 1) := by decide +kernel
theorem d_X_remainder_0 : decode prog_1_method_10_code 0 = .ok (.aload_n 0, 1) := by decide +kernel
theorem d_X_remainder_1 : decode prog_1_method_10_code 1 = .ok (.iload_n 1, 1) := by decide +kernel
theorem d_X_remainder_2 : decode prog_1_method_10_code 2 = .ok (.iload_n 2, 1) := by decide +kernel
theorem d_X_remainder_3 : decode prog_1_method_10_code 3 = .ok (.iload_n 3, 1) := by decide +kernel
theorem d_X_remainder_4 : decode prog_1_method_10_code 4 = .ok (.iconst 0, 1) := by decide +kernel
theorem d_X_remainder_5 : decode prog_1_method_10_code 5 = .ok (.invokevirtual 50, 3) := by decide +kernel
theorem d_X_remainder_8 : decode prog_1_method_10_code 8 = .ok (.ifCond .eq 23, 3) := by decide +kernel
theorem d_X_remainder_11 : decode prog_1_method_10_code 11 = .ok (.aload_n 0, 1) := by decide +kernel
theorem d_X_remainder_12 : decode prog_1_method_10_code 12 = .ok (.getfield 9, 3) := by decide +kernel
theorem d_X_remainder_15 : decode prog_1_method_10_code 15 = .ok (.iload_n 3, 1) := by decide +kernel
theorem d_X_remainder_16 : decode prog_1_method_10_code 16 = .ok (.laload, 1) := by decide +kernel
theorem d_X_remainder_17 : decode prog_1_method_10_code 17 = .ok (.lconst 0, 1) := by decide +kernel
theorem d_X_remainder_18 : decode prog_1_method_10_code 18 = .ok (.lcmp, 1) := by decide +kernel
theorem d_X_remainder_19 : decode prog_1_method_10_code 19 = .ok (.ifCond .eq 12, 3) := by decide +kernel
theorem d_X_remainder_22 : decode prog_1_method_10_code 22 = .ok (.aload_n 0, 1) := by decide +kernel
theorem d_X_remainder_23 : decode prog_1_method_10_code 23 = .ok (.iload_n 2, 1) := by decide +kernel
theorem d_X_remainder_24 : decode prog_1_method_10_code 24 = .ok (.iload_n 3, 1) := by decide +kernel
theorem d_X_remainder_25 : decode prog_1_method_10_code 25 = .ok (.invokevirtual 80, 3) := by decide +kernel
theorem d_X_remainder_28 : decode prog_1_method_10_code 28 = .ok (.ifCond .eq 5, 3) := by decide +kernel
theorem d_X_remainder_31 : decode prog_1_method_10_code 31 = .ok (.iconst (-1), 1) := by decide +kernel
theorem d_X_remainder_32 : decode prog_1_method_10_code 32 = .ok (.ireturn, 1) := by decide +kernel
theorem d_X_remainder_33 : decode prog_1_method_10_code 33 = .ok (.aload_n 0, 1) := by decide +kernel
theorem d_X_remainder_34 : decode prog_1_method_10_code 34 = .ok (.getfield 13, 3) := by decide +kernel
theorem d_X_remainder_37 : decode prog_1_method_10_code 37 = .ok (.iload_n 2, 1) := by decide +kernel
theorem d_X_remainder_38 : decode prog_1_method_10_code 38 = .ok (.iaload, 1) := by decide +kernel
theorem d_X_remainder_39 : decode prog_1_method_10_code 39 = .ok (.aload_n 0, 1) := by decide +kernel
theorem d_X_remainder_40 : decode prog_1_method_10_code 40 = .ok (.getfield 13, 3) := by decide +kernel
theorem d_X_remainder_43 : decode prog_1_method_10_code 43 = .ok (.iload_n 3, 1) := by decide +kernel
theorem d_X_remainder_44 : decode prog_1_method_10_code 44 = .ok (.iaload, 1) := by decide +kernel
theorem d_X_remainder_45 : decode prog_1_method_10_code 45 = .ok (.if_icmp .ge 25, 3) := by decide +kernel
theorem d_X_remainder_48 : decode prog_1_method_10_code 48 = .ok (.aload_n 0, 1) := by decide +kernel
theorem d_X_remainder_49 : decode prog_1_method_10_code 49 = .ok (.getfield 20, 3) := by decide +kernel
theorem d_X_remainder_52 : decode prog_1_method_10_code 52 = .ok (.aload_n 0, 1) := by decide +kernel
theorem d_X_remainder_53 : decode prog_1_method_10_code 53 = .ok (.getfield 9, 3) := by decide +kernel
theorem d_X_remainder_56 : decode prog_1_method_10_code 56 = .ok (.iload_n 2, 1) := by decide +kernel
theorem d_X_remainder_57 : decode prog_1_method_10_code 57 = .ok (.laload, 1) := by decide +kernel
theorem d_X_remainder_58 : decode prog_1_method_10_code 58 = .ok (.aload_n 0, 1) := by decide +kernel
theorem d_X_remainder_59 : decode prog_1_method_10_code 59 = .ok (.getfield 13, 3) := by decide +kernel
theorem d_X_remainder_62 : decode prog_1_method_10_code 62 = .ok (.iload_n 2, 1) := by decide +kernel
theorem d_X_remainder_63 : decode prog_1_method_10_code 63 = .ok (.iaload, 1) := by decide +kernel
theorem d_X_remainder_64 : decode prog_1_method_10_code 64 = .ok (.invokevirtual 54, 3) := by decide +kernel
theorem d_X_remainder_67 : decode prog_1_method_10_code 67 = .ok (.goto 71, 3) := by decide +kernel
theorem d_X_remainder_70 : decode prog_1_method_10_code 70 = .ok (.aload_n 0, 1) := by decide +kernel
theorem d_X_remainder_71 : decode prog_1_method_10_code 71 = .ok (.getfield 9, 3) := by decide +kernel
theorem d_X_remainder_74 : decode prog_1_method_10_code 74 = .ok (.iload_n 2, 1) := by decide +kernel
theorem d_X_remainder_75 : decode prog_1_method_10_code 75 = .ok (.laload, 1) := by decide +kernel
theorem d_X_remainder_76 : decode prog_1_method_10_code 76 = .ok (.invokestatic 84, 3) := by decide +kernel
theorem d_X_remainder_79 : decode prog_1_method_10_code 79 = .ok (.aload_n 0, 1) := by decide +kernel
theorem d_X_remainder_80 : decode prog_1_method_10_code 80 = .ok (.getfield 9, 3) := by decide +kernel
theorem d_X_remainder_83 : decode prog_1_method_10_code 83 = .ok (.iload_n 3, 1) := by decide +kernel
theorem d_X_remainder_84 : decode prog_1_method_10_code 84 = .ok (.laload, 1) := by decide +kernel
theorem d_X_remainder_85 : decode prog_1_method_10_code 85 = .ok (.invokestatic 84, 3) := by decide +kernel
theorem d_X_remainder_88 : decode prog_1_method_10_code 88 = .ok (.aload_n 0, 1) := by decide +kernel
theorem d_X_remainder_89 : decode prog_1_method_10_code 89 = .ok (.getfield 13, 3) := by decide +kernel
theorem d_X_remainder_92 : decode prog_1_method_10_code 92 = .ok (.iload_n 2, 1) := by decide +kernel
theorem d_X_remainder_93 : decode prog_1_method_10_code 93 = .ok (.iaload, 1) := by decide +kernel
theorem d_X_remainder_94 : decode prog_1_method_10_code 94 = .ok (.aload_n 0, 1) := by decide +kernel
theorem d_X_remainder_95 : decode prog_1_method_10_code 95 = .ok (.getfield 13, 3) := by decide +kernel
theorem d_X_remainder_98 : decode prog_1_method_10_code 98 = .ok (.iload_n 3, 1) := by decide +kernel
theorem d_X_remainder_99 : decode prog_1_method_10_code 99 = .ok (.iaload, 1) := by decide +kernel
theorem d_X_remainder_100 : decode prog_1_method_10_code 100 = .ok (.isub, 1) := by decide +kernel
theorem d_X_remainder_101 : decode prog_1_method_10_code 101 = .ok (.invokestatic 90, 3) := by decide +kernel
theorem d_X_remainder_104 : decode prog_1_method_10_code 104 = .ok (.lstore 4, 2) := by decide +kernel
theorem d_X_remainder_106 : decode prog_1_method_10_code 106 = .ok (.aload_n 0, 1) := by decide +kernel
theorem d_X_remainder_107 : decode prog_1_method_10_code 107 = .ok (.getfield 20, 3) := by decide +kernel
theorem d_X_remainder_110 : decode prog_1_method_10_code 110 = .ok (.aload_n 0, 1) := by decide +kernel
theorem d_X_remainder_111 : decode prog_1_method_10_code 111 = .ok (.getfield 9, 3) := by decide +kernel
theorem d_X_remainder_114 : decode prog_1_method_10_code 114 = .ok (.iload_n 2, 1) := by decide +kernel
theorem d_X_remainder_115 : decode prog_1_method_10_code 115 = .ok (.laload, 1) := by decide +kernel
theorem d_X_remainder_116 : decode prog_1_method_10_code 116 = .ok (.lconst 0, 1) := by decide +kernel
theorem d_X_remainder_117 : decode prog_1_method_10_code 117 = .ok (.lcmp, 1) := by decide +kernel
theorem d_X_remainder_118 : decode prog_1_method_10_code 118 = .ok (.ifCond .ge 9, 3) := by decide +kernel
theorem d_X_remainder_121 : decode prog_1_method_10_code 121 = .ok (.lload 4, 2) := by decide +kernel
theorem d_X_remainder_123 : decode prog_1_method_10_code 123 = .ok (.lneg, 1) := by decide +kernel
theorem d_X_remainder_124 : decode prog_1_method_10_code 124 = .ok (.goto 5, 3) := by decide +kernel
theorem d_X_remainder_127 : decode prog_1_method_10_code 127 = .ok (.lload 4, 2) := by decide +kernel
theorem d_X_remainder_129 : decode prog_1_method_10_code 129 = .ok (.aload_n 0, 1) := by decide +kernel
theorem d_X_remainder_130 : decode prog_1_method_10_code 130 = .ok (.getfield 13, 3) := by decide +kernel
theorem d_X_remainder_133 : decode prog_1_method_10_code 133 = .ok (.iload_n 3, 1) := by decide +kernel
theorem d_X_remainder_134 : decode prog_1_method_10_code 134 = .ok (.iaload, 1) := by decide +kernel
theorem d_X_remainder_135 : decode prog_1_method_10_code 135 = .ok (.invokevirtual 54, 3) := by decide +kernel
theorem d_X_remainder_138 : decode prog_1_method_10_code 138 = .ok (.aload_n 0, 1) := by decide +kernel
theorem d_X_remainder_139 : decode prog_1_method_10_code 139 = .ok (.iload_n 1, 1) := by decide +kernel
theorem d_X_remainder_140 : decode prog_1_method_10_code 140 = .ok (.aload_n 0, 1) := by decide +kernel
theorem d_X_remainder_141 : decode prog_1_method_10_code 141 = .ok (.getfield 20, 3) := by decide +kernel
theorem d_X_remainder_144 : decode prog_1_method_10_code 144 = .ok (.iconst 0, 1) := by decide +kernel
theorem d_X_remainder_145 : decode prog_1_method_10_code 145 = .ok (.invokevirtual 62, 3) := by decide +kernel
theorem d_X_remainder_148 : decode prog_1_method_10_code 148 = .ok (.ireturn, 1) := by decide +kernel
theorem d_X_copy_0 : decode prog_1_method_11_code 0 = .ok (.iload_n 1, 1) := by decide +kernel
theorem d_X_copy_1 : decode prog_1_method_11_code 1 = .ok (.invokestatic 30, 3) := by decide +kernel
theorem d_X_copy_4 : decode prog_1_method_11_code 4 = .ok (.ifCond .eq 10, 3) := by decide +kernel
theorem d_X_copy_7 : decode prog_1_method_11_code 7 = .ok (.iload_n 2, 1) := by decide +kernel
theorem d_X_copy_8 : decode prog_1_method_11_code 8 = .ok (.invokestatic 30, 3) := by decide +kernel
theorem d_X_copy_11 : decode prog_1_method_11_code 11 = .ok (.ifCond .ne 5, 3) := by decide +kernel
theorem d_X_copy_14 : decode prog_1_method_11_code 14 = .ok (.iconst (-1), 1) := by decide +kernel
theorem d_X_copy_15 : decode prog_1_method_11_code 15 = .ok (.ireturn, 1) := by decide +kernel
theorem d_X_copy_16 : decode prog_1_method_11_code 16 = .ok (.aload_n 0, 1) := by decide +kernel
theorem d_X_copy_17 : decode prog_1_method_11_code 17 = .ok (.getfield 20, 3) := by decide +kernel
theorem d_X_copy_20 : decode prog_1_method_11_code 20 = .ok (.aload_n 0, 1) := by decide +kernel
theorem d_X_copy_21 : decode prog_1_method_11_code 21 = .ok (.getfield 9, 3) := by decide +kernel
theorem d_X_copy_24 : decode prog_1_method_11_code 24 = .ok (.iload_n 2, 1) := by decide +kernel
theorem d_X_copy_25 : decode prog_1_method_11_code 25 = .ok (.laload, 1) := by decide +kernel
theorem d_X_copy_26 : decode prog_1_method_11_code 26 = .ok (.aload_n 0, 1) := by decide +kernel
theorem d_X_copy_27 : decode prog_1_method_11_code 27 = .ok (.getfield 13, 3) := by decide +kernel
theorem d_X_copy_30 : decode prog_1_method_11_code 30 = .ok (.iload_n 2, 1) := by decide +kernel
theorem d_X_copy_31 : decode prog_1_method_11_code 31 = .ok (.iaload, 1) := by decide +kernel
theorem d_X_copy_32 : decode prog_1_method_11_code 32 = .ok (.invokevirtual 54, 3) := by decide +kernel
theorem d_X_copy_35 : decode prog_1_method_11_code 35 = .ok (.aload_n 0, 1) := by decide +kernel
theorem d_X_copy_36 : decode prog_1_method_11_code 36 = .ok (.iload_n 1, 1) := by decide +kernel
theorem d_X_copy_37 : decode prog_1_method_11_code 37 = .ok (.aload_n 0, 1) := by decide +kernel
theorem d_X_copy_38 : decode prog_1_method_11_code 38 = .ok (.getfield 20, 3) := by decide +kernel
theorem d_X_copy_41 : decode prog_1_method_11_code 41 = .ok (.iload_n 3, 1) := by decide +kernel
theorem d_X_copy_42 : decode prog_1_method_11_code 42 = .ok (.invokevirtual 62, 3) := by decide +kernel
theorem d_X_copy_45 : decode prog_1_method_11_code 45 = .ok (.ireturn, 1) := by decide +kernel
theorem d_X_scale_0 : decode prog_1_method_12_code 0 = .ok (.iload_n 1, 1) := by decide +kernel
theorem d_X_scale_1 : decode prog_1_method_12_code 1 = .ok (.invokestatic 30, 3) := by decide +kernel
theorem d_X_scale_4 : decode prog_1_method_12_code 4 = .ok (.ifCond .eq 24, 3) := by decide +kernel
theorem d_X_scale_7 : decode prog_1_method_12_code 7 = .ok (.iload_n 2, 1) := by decide +kernel
theorem d_X_scale_8 : decode prog_1_method_12_code 8 = .ok (.invokestatic 30, 3) := by decide +kernel
theorem d_X_scale_11 : decode prog_1_method_12_code 11 = .ok (.ifCond .eq 17, 3) := by decide +kernel
theorem d_X_scale_14 : decode prog_1_method_12_code 14 = .ok (.iload_n 3, 1) := by decide +kernel
theorem d_X_scale_15 : decode prog_1_method_12_code 15 = .ok (.sipush (-500), 3) := by decide +kernel
theorem d_X_scale_18 : decode prog_1_method_12_code 18 = .ok (.if_icmp .lt 10, 3) := by decide +kernel
theorem d_X_scale_21 : decode prog_1_method_12_code 21 = .ok (.iload_n 3, 1) := by decide +kernel
theorem d_X_scale_22 : decode prog_1_method_12_code 22 = .ok (.sipush 500, 3) := by decide +kernel
theorem d_X_scale_25 : decode prog_1_method_12_code 25 = .ok (.if_icmp .le 5, 3) := by decide +kernel
theorem d_X_scale_28 : decode prog_1_method_12_code 28 = .ok (.iconst (-1), 1) := by decide +kernel
theorem d_X_scale_29 : decode prog_1_method_12_code 29 = .ok (.ireturn, 1) := by decide +kernel
theorem d_X_scale_30 : decode prog_1_method_12_code 30 = .ok (.aload_n 0, 1) := by decide +kernel
theorem d_X_scale_31 : decode prog_1_method_12_code 31 = .ok (.getfield 20, 3) := by decide +kernel
theorem d_X_scale_34 : decode prog_1_method_12_code 34 = .ok (.aload_n 0, 1) := by decide +kernel
theorem d_X_scale_35 : decode prog_1_method_12_code 35 = .ok (.getfield 9, 3) := by decide +kernel
theorem d_X_scale_38 : decode prog_1_method_12_code 38 = .ok (.iload_n 2, 1) := by decide +kernel
theorem d_X_scale_39 : decode prog_1_method_12_code 39 = .ok (.laload, 1) := by decide +kernel
theorem d_X_scale_40 : decode prog_1_method_12_code 40 = .ok (.aload_n 0, 1) := by decide +kernel
theorem d_X_scale_41 : decode prog_1_method_12_code 41 = .ok (.getfield 13, 3) := by decide +kernel
theorem d_X_scale_44 : decode prog_1_method_12_code 44 = .ok (.iload_n 2, 1) := by decide +kernel
theorem d_X_scale_45 : decode prog_1_method_12_code 45 = .ok (.iaload, 1) := by decide +kernel
theorem d_X_scale_46 : decode prog_1_method_12_code 46 = .ok (.iload_n 3, 1) := by decide +kernel
theorem d_X_scale_47 : decode prog_1_method_12_code 47 = .ok (.iadd, 1) := by decide +kernel
theorem d_X_scale_48 : decode prog_1_method_12_code 48 = .ok (.invokevirtual 54, 3) := by decide +kernel
theorem d_X_scale_51 : decode prog_1_method_12_code 51 = .ok (.aload_n 0, 1) := by decide +kernel
theorem d_X_scale_52 : decode prog_1_method_12_code 52 = .ok (.iload_n 1, 1) := by decide +kernel
theorem d_X_scale_53 : decode prog_1_method_12_code 53 = .ok (.aload_n 0, 1) := by decide +kernel
theorem d_X_scale_54 : decode prog_1_method_12_code 54 = .ok (.getfield 20, 3) := by decide +kernel
theorem d_X_scale_57 : decode prog_1_method_12_code 57 = .ok (.iconst 0, 1) := by decide +kernel
theorem d_X_scale_58 : decode prog_1_method_12_code 58 = .ok (.invokevirtual 62, 3) := by decide +kernel
theorem d_X_scale_61 : decode prog_1_method_12_code 61 = .ok (.ireturn, 1) := by decide +kernel
theorem d_X_step_0 : decode prog_1_method_13_code 0 = .ok (.iload_n 1, 1) := by decide +kernel
theorem d_X_step_1 : decode prog_1_method_13_code 1 = .ok (.invokestatic 30, 3) := by decide +kernel
theorem d_X_step_4 : decode prog_1_method_13_code 4 = .ok (.ifCond .eq 10, 3) := by decide +kernel
theorem d_X_step_7 : decode prog_1_method_13_code 7 = .ok (.iload_n 2, 1) := by decide +kernel
theorem d_X_step_8 : decode prog_1_method_13_code 8 = .ok (.invokestatic 30, 3) := by decide +kernel
theorem d_X_step_11 : decode prog_1_method_13_code 11 = .ok (.ifCond .ne 5, 3) := by decide +kernel
theorem d_X_step_14 : decode prog_1_method_13_code 14 = .ok (.iconst (-1), 1) := by decide +kernel
theorem d_X_step_15 : decode prog_1_method_13_code 15 = .ok (.ireturn, 1) := by decide +kernel
theorem d_X_step_16 : decode prog_1_method_13_code 16 = .ok (.aload_n 0, 1) := by decide +kernel
theorem d_X_step_17 : decode prog_1_method_13_code 17 = .ok (.getfield 9, 3) := by decide +kernel
theorem d_X_step_20 : decode prog_1_method_13_code 20 = .ok (.iload_n 2, 1) := by decide +kernel
theorem d_X_step_21 : decode prog_1_method_13_code 21 = .ok (.laload, 1) := by decide +kernel
theorem d_X_step_22 : decode prog_1_method_13_code 22 = .ok (.lstore 5, 2) := by decide +kernel
theorem d_X_step_24 : decode prog_1_method_13_code 24 = .ok (.lload 5, 2) := by decide +kernel
theorem d_X_step_26 : decode prog_1_method_13_code 26 = .ok (.lconst 0, 1) := by decide +kernel
theorem d_X_step_27 : decode prog_1_method_13_code 27 = .ok (.lcmp, 1) := by decide +kernel
theorem d_X_step_28 : decode prog_1_method_13_code 28 = .ok (.ifCond .ne 23, 3) := by decide +kernel
theorem d_X_step_31 : decode prog_1_method_13_code 31 = .ok (.aload_n 0, 1) := by decide +kernel
theorem d_X_step_32 : decode prog_1_method_13_code 32 = .ok (.iload_n 1, 1) := by decide +kernel
theorem d_X_step_33 : decode prog_1_method_13_code 33 = .ok (.iload_n 3, 1) := by decide +kernel
theorem d_X_step_34 : decode prog_1_method_13_code 34 = .ok (.ifCond .eq 7, 3) := by decide +kernel
theorem d_X_step_37 : decode prog_1_method_13_code 37 = .ok (.lconst 1, 1) := by decide +kernel
theorem d_X_step_38 : decode prog_1_method_13_code 38 = .ok (.goto 6, 3) := by decide +kernel
theorem d_X_step_41 : decode prog_1_method_13_code 41 = .ok (.ldc2_w 94, 3) := by decide +kernel
theorem d_X_step_44 : decode prog_1_method_13_code 44 = .ok (.bipush (-100), 2) := by decide +kernel
theorem d_X_step_46 : decode prog_1_method_13_code 46 = .ok (.iconst 0, 1) := by decide +kernel
theorem d_X_step_47 : decode prog_1_method_13_code 47 = .ok (.invokevirtual 96, 3) := by decide +kernel
theorem d_X_step_50 : decode prog_1_method_13_code 50 = .ok (.ireturn, 1) := by decide +kernel
theorem d_X_step_51 : decode prog_1_method_13_code 51 = .ok (.iload_n 3, 1) := by decide +kernel
theorem d_X_step_52 : decode prog_1_method_13_code 52 = .ok (.lload 5, 2) := by decide +kernel
theorem d_X_step_54 : decode prog_1_method_13_code 54 = .ok (.lconst 0, 1) := by decide +kernel
theorem d_X_step_55 : decode prog_1_method_13_code 55 = .ok (.lcmp, 1) := by decide +kernel
theorem d_X_step_56 : decode prog_1_method_13_code 56 = .ok (.ifCond .le 7, 3) := by decide +kernel
theorem d_X_step_59 : decode prog_1_method_13_code 59 = .ok (.iconst 1, 1) := by decide +kernel
theorem d_X_step_60 : decode prog_1_method_13_code 60 = .ok (.goto 4, 3) := by decide +kernel
theorem d_X_step_63 : decode prog_1_method_13_code 63 = .ok (.iconst 0, 1) := by decide +kernel
theorem d_X_step_64 : decode prog_1_method_13_code 64 = .ok (.if_icmp .ne 7, 3) := by decide +kernel
theorem d_X_step_67 : decode prog_1_method_13_code 67 = .ok (.iconst 1, 1) := by decide +kernel
theorem d_X_step_68 : decode prog_1_method_13_code 68 = .ok (.goto 4, 3) := by decide +kernel
theorem d_X_step_71 : decode prog_1_method_13_code 71 = .ok (.iconst 0, 1) := by decide +kernel
theorem d_X_step_72 : decode prog_1_method_13_code 72 = .ok (.istore 7, 2) := by decide +kernel
theorem d_X_step_74 : decode prog_1_method_13_code 74 = .ok (.iload 4, 2) := by decide +kernel
theorem d_X_step_76 : decode prog_1_method_13_code 76 = .ok (.ifCond .eq 8, 3) := by decide +kernel
theorem d_X_step_79 : decode prog_1_method_13_code 79 = .ok (.bipush 29, 2) := by decide +kernel
theorem d_X_step_81 : decode prog_1_method_13_code 81 = .ok (.goto 4, 3) := by decide +kernel
theorem d_X_step_84 : decode prog_1_method_13_code 84 = .ok (.iconst 0, 1) := by decide +kernel
theorem d_X_step_85 : decode prog_1_method_13_code 85 = .ok (.istore 8, 2) := by decide +kernel
theorem d_X_step_87 : decode prog_1_method_13_code 87 = .ok (.lload 5, 2) := by decide +kernel
theorem d_X_step_89 : decode prog_1_method_13_code 89 = .ok (.invokestatic 84, 3) := by decide +kernel
theorem d_X_step_92 : decode prog_1_method_13_code 92 = .ok (.iload 8, 2) := by decide +kernel
theorem d_X_step_94 : decode prog_1_method_13_code 94 = .ok (.lshr, 1) := by decide +kernel
theorem d_X_step_95 : decode prog_1_method_13_code 95 = .ok (.lstore 9, 2) := by decide +kernel
theorem d_X_step_97 : decode prog_1_method_13_code 97 = .ok (.aload_n 0, 1) := by decide +kernel
theorem d_X_step_98 : decode prog_1_method_13_code 98 = .ok (.getfield 13, 3) := by decide +kernel
theorem d_X_step_101 : decode prog_1_method_13_code 101 = .ok (.iload_n 2, 1) := by decide +kernel
theorem d_X_step_102 : decode prog_1_method_13_code 102 = .ok (.iaload, 1) := by decide +kernel
theorem d_X_step_103 : decode prog_1_method_13_code 103 = .ok (.iload 8, 2) := by decide +kernel
theorem d_X_step_105 : decode prog_1_method_13_code 105 = .ok (.iadd, 1) := by decide +kernel
theorem d_X_step_106 : decode prog_1_method_13_code 106 = .ok (.istore 11, 2) := by decide +kernel
theorem d_X_step_108 : decode prog_1_method_13_code 108 = .ok (.iload 7, 2) := by decide +kernel
theorem d_X_step_110 : decode prog_1_method_13_code 110 = .ok (.ifCond .eq 12, 3) := by decide +kernel
theorem d_X_step_113 : decode prog_1_method_13_code 113 = .ok (.lload 9, 2) := by decide +kernel
theorem d_X_step_115 : decode prog_1_method_13_code 115 = .ok (.lconst 1, 1) := by decide +kernel
theorem d_X_step_116 : decode prog_1_method_13_code 116 = .ok (.ladd, 1) := by decide +kernel
theorem d_X_step_117 : decode prog_1_method_13_code 117 = .ok (.lstore 9, 2) := by decide +kernel
theorem d_X_step_119 : decode prog_1_method_13_code 119 = .ok (.goto 63, 3) := by decide +kernel
theorem d_X_step_122 : decode prog_1_method_13_code 122 = .ok (.iload 4, 2) := by decide +kernel
theorem d_X_step_124 : decode prog_1_method_13_code 124 = .ok (.ifCond .eq 11, 3) := by decide +kernel
theorem d_X_step_127 : decode prog_1_method_13_code 127 = .ok (.aload_n 0, 1) := by decide +kernel
theorem d_X_step_128 : decode prog_1_method_13_code 128 = .ok (.iload_n 2, 1) := by decide +kernel
theorem d_X_step_129 : decode prog_1_method_13_code 129 = .ok (.invokevirtual 100, 3) := by decide +kernel
theorem d_X_step_132 : decode prog_1_method_13_code 132 = .ok (.ifCond .eq 50, 3) := by decide +kernel
theorem d_X_step_135 : decode prog_1_method_13_code 135 = .ok (.lload 9, 2) := by decide +kernel
theorem d_X_step_137 : decode prog_1_method_13_code 137 = .ok (.invokestatic 103, 3) := by decide +kernel
theorem d_X_step_140 : decode prog_1_method_13_code 140 = .ok (.iconst 1, 1) := by decide +kernel
theorem d_X_step_141 : decode prog_1_method_13_code 141 = .ok (.if_icmp .le 12, 3) := by decide +kernel
theorem d_X_step_144 : decode prog_1_method_13_code 144 = .ok (.lload 9, 2) := by decide +kernel
theorem d_X_step_146 : decode prog_1_method_13_code 146 = .ok (.lconst 1, 1) := by decide +kernel
theorem d_X_step_147 : decode prog_1_method_13_code 147 = .ok (.lsub, 1) := by decide +kernel
theorem d_X_step_148 : decode prog_1_method_13_code 148 = .ok (.lstore 9, 2) := by decide +kernel
theorem d_X_step_150 : decode prog_1_method_13_code 150 = .ok (.goto 32, 3) := by decide +kernel
theorem d_X_step_153 : decode prog_1_method_13_code 153 = .ok (.aload_n 0, 1) := by decide +kernel
theorem d_X_step_154 : decode prog_1_method_13_code 154 = .ok (.iload_n 2, 1) := by decide +kernel
theorem d_X_step_155 : decode prog_1_method_13_code 155 = .ok (.invokevirtual 109, 3) := by decide +kernel
theorem d_X_step_158 : decode prog_1_method_13_code 158 = .ok (.bipush (-100), 2) := by decide +kernel
theorem d_X_step_160 : decode prog_1_method_13_code 160 = .ok (.if_icmp .ne 9, 3) := by decide +kernel
theorem d_X_step_163 : decode prog_1_method_13_code 163 = .ok (.lconst 0, 1) := by decide +kernel
theorem d_X_step_164 : decode prog_1_method_13_code 164 = .ok (.lstore 9, 2) := by decide +kernel
theorem d_X_step_166 : decode prog_1_method_13_code 166 = .ok (.goto 16, 3) := by decide +kernel
theorem d_X_step_169 : decode prog_1_method_13_code 169 = .ok (.ldc2_w 113, 3) := by decide +kernel
theorem d_X_step_172 : decode prog_1_method_13_code 172 = .ok (.lload 9, 2) := by decide +kernel
theorem d_X_step_174 : decode prog_1_method_13_code 174 = .ok (.lmul, 1) := by decide +kernel
theorem d_X_step_175 : decode prog_1_method_13_code 175 = .ok (.lconst 1, 1) := by decide +kernel
theorem d_X_step_176 : decode prog_1_method_13_code 176 = .ok (.lsub, 1) := by decide +kernel
theorem d_X_step_177 : decode prog_1_method_13_code 177 = .ok (.lstore 9, 2) := by decide +kernel
theorem d_X_step_179 : decode prog_1_method_13_code 179 = .ok (.iinc 11 (-1), 3) := by decide +kernel
theorem d_X_step_182 : decode prog_1_method_13_code 182 = .ok (.aload_n 0, 1) := by decide +kernel
theorem d_X_step_183 : decode prog_1_method_13_code 183 = .ok (.iload_n 1, 1) := by decide +kernel
theorem d_X_step_184 : decode prog_1_method_13_code 184 = .ok (.lload 5, 2) := by decide +kernel
theorem d_X_step_186 : decode prog_1_method_13_code 186 = .ok (.lconst 0, 1) := by decide +kernel
theorem d_X_step_187 : decode prog_1_method_13_code 187 = .ok (.lcmp, 1) := by decide +kernel
theorem d_X_step_188 : decode prog_1_method_13_code 188 = .ok (.ifCond .ge 9, 3) := by decide +kernel
theorem d_X_step_191 : decode prog_1_method_13_code 191 = .ok (.lload 9, 2) := by decide +kernel
theorem d_X_step_193 : decode prog_1_method_13_code 193 = .ok (.lneg, 1) := by decide +kernel
theorem d_X_step_194 : decode prog_1_method_13_code 194 = .ok (.goto 5, 3) := by decide +kernel
theorem d_X_step_197 : decode prog_1_method_13_code 197 = .ok (.lload 9, 2) := by decide +kernel
theorem d_X_step_199 : decode prog_1_method_13_code 199 = .ok (.iload 11, 2) := by decide +kernel
theorem d_X_step_201 : decode prog_1_method_13_code 201 = .ok (.iconst 0, 1) := by decide +kernel
theorem d_X_step_202 : decode prog_1_method_13_code 202 = .ok (.invokevirtual 96, 3) := by decide +kernel
theorem d_X_step_205 : decode prog_1_method_13_code 205 = .ok (.ireturn, 1) := by decide +kernel
theorem d_X_cubeRoot_0 : decode prog_1_method_14_code 0 = .ok (.iload_n 1, 1) := by decide +kernel
theorem d_X_cubeRoot_1 : decode prog_1_method_14_code 1 = .ok (.invokestatic 30, 3) := by decide +kernel
theorem d_X_cubeRoot_4 : decode prog_1_method_14_code 4 = .ok (.ifCond .eq 10, 3) := by decide +kernel
theorem d_X_cubeRoot_7 : decode prog_1_method_14_code 7 = .ok (.iload_n 2, 1) := by decide +kernel
theorem d_X_cubeRoot_8 : decode prog_1_method_14_code 8 = .ok (.invokestatic 30, 3) := by decide +kernel
theorem d_X_cubeRoot_11 : decode prog_1_method_14_code 11 = .ok (.ifCond .ne 5, 3) := by decide +kernel
theorem d_X_cubeRoot_14 : decode prog_1_method_14_code 14 = .ok (.iconst (-1), 1) := by decide +kernel
theorem d_X_cubeRoot_15 : decode prog_1_method_14_code 15 = .ok (.ireturn, 1) := by decide +kernel
theorem d_X_cubeRoot_16 : decode prog_1_method_14_code 16 = .ok (.aload_n 0, 1) := by decide +kernel
theorem d_X_cubeRoot_17 : decode prog_1_method_14_code 17 = .ok (.getfield 9, 3) := by decide +kernel
theorem d_X_cubeRoot_20 : decode prog_1_method_14_code 20 = .ok (.iload_n 1, 1) := by decide +kernel
theorem d_X_cubeRoot_21 : decode prog_1_method_14_code 21 = .ok (.laload, 1) := by decide +kernel
theorem d_X_cubeRoot_22 : decode prog_1_method_14_code 22 = .ok (.invokestatic 115, 3) := by decide +kernel
theorem d_X_cubeRoot_25 : decode prog_1_method_14_code 25 = .ok (.aload_n 0, 1) := by decide +kernel
theorem d_X_cubeRoot_26 : decode prog_1_method_14_code 26 = .ok (.getfield 9, 3) := by decide +kernel
theorem d_X_cubeRoot_29 : decode prog_1_method_14_code 29 = .ok (.iload_n 2, 1) := by decide +kernel
theorem d_X_cubeRoot_30 : decode prog_1_method_14_code 30 = .ok (.laload, 1) := by decide +kernel
theorem d_X_cubeRoot_31 : decode prog_1_method_14_code 31 = .ok (.invokestatic 115, 3) := by decide +kernel
theorem d_X_cubeRoot_34 : decode prog_1_method_14_code 34 = .ok (.if_icmp .eq 5, 3) := by decide +kernel
theorem d_X_cubeRoot_37 : decode prog_1_method_14_code 37 = .ok (.iconst 0, 1) := by decide +kernel
theorem d_X_cubeRoot_38 : decode prog_1_method_14_code 38 = .ok (.ireturn, 1) := by decide +kernel
theorem d_X_cubeRoot_39 : decode prog_1_method_14_code 39 = .ok (.aload_n 0, 1) := by decide +kernel
theorem d_X_cubeRoot_40 : decode prog_1_method_14_code 40 = .ok (.getfield 9, 3) := by decide +kernel
theorem d_X_cubeRoot_43 : decode prog_1_method_14_code 43 = .ok (.iload_n 2, 1) := by decide +kernel
theorem d_X_cubeRoot_44 : decode prog_1_method_14_code 44 = .ok (.laload, 1) := by decide +kernel
theorem d_X_cubeRoot_45 : decode prog_1_method_14_code 45 = .ok (.lconst 0, 1) := by decide +kernel
theorem d_X_cubeRoot_46 : decode prog_1_method_14_code 46 = .ok (.lcmp, 1) := by decide +kernel
theorem d_X_cubeRoot_47 : decode prog_1_method_14_code 47 = .ok (.ifCond .ne 5, 3) := by decide +kernel
theorem d_X_cubeRoot_50 : decode prog_1_method_14_code 50 = .ok (.iconst 1, 1) := by decide +kernel
theorem d_X_cubeRoot_51 : decode prog_1_method_14_code 51 = .ok (.ireturn, 1) := by decide +kernel
theorem d_X_cubeRoot_52 : decode prog_1_method_14_code 52 = .ok (.aload_n 0, 1) := by decide +kernel
theorem d_X_cubeRoot_53 : decode prog_1_method_14_code 53 = .ok (.getfield 9, 3) := by decide +kernel
theorem d_X_cubeRoot_56 : decode prog_1_method_14_code 56 = .ok (.iload_n 2, 1) := by decide +kernel
theorem d_X_cubeRoot_57 : decode prog_1_method_14_code 57 = .ok (.laload, 1) := by decide +kernel
theorem d_X_cubeRoot_58 : decode prog_1_method_14_code 58 = .ok (.invokestatic 84, 3) := by decide +kernel
theorem d_X_cubeRoot_61 : decode prog_1_method_14_code 61 = .ok (.lstore_n 3, 1) := by decide +kernel
theorem d_X_cubeRoot_62 : decode prog_1_method_14_code 62 = .ok (.aload_n 0, 1) := by decide +kernel
theorem d_X_cubeRoot_63 : decode prog_1_method_14_code 63 = .ok (.lload_n 3, 1) := by decide +kernel
theorem d_X_cubeRoot_64 : decode prog_1_method_14_code 64 = .ok (.lconst 1, 1) := by decide +kernel
theorem d_X_cubeRoot_65 : decode prog_1_method_14_code 65 = .ok (.lsub, 1) := by decide +kernel
theorem d_X_cubeRoot_66 : decode prog_1_method_14_code 66 = .ok (.aload_n 0, 1) := by decide +kernel
theorem d_X_cubeRoot_67 : decode prog_1_method_14_code 67 = .ok (.getfield 13, 3) := by decide +kernel
theorem d_X_cubeRoot_70 : decode prog_1_method_14_code 70 = .ok (.iload_n 2, 1) := by decide +kernel
theorem d_X_cubeRoot_71 : decode prog_1_method_14_code 71 = .ok (.iaload, 1) := by decide +kernel
theorem d_X_cubeRoot_72 : decode prog_1_method_14_code 72 = .ok (.iload_n 1, 1) := by decide +kernel
theorem d_X_cubeRoot_73 : decode prog_1_method_14_code 73 = .ok (.invokevirtual 118, 3) := by decide +kernel
theorem d_X_cubeRoot_76 : decode prog_1_method_14_code 76 = .ok (.ifCond .ge 24, 3) := by decide +kernel
theorem d_X_cubeRoot_79 : decode prog_1_method_14_code 79 = .ok (.aload_n 0, 1) := by decide +kernel
theorem d_X_cubeRoot_80 : decode prog_1_method_14_code 80 = .ok (.lload_n 3, 1) := by decide +kernel
theorem d_X_cubeRoot_81 : decode prog_1_method_14_code 81 = .ok (.lconst 1, 1) := by decide +kernel
theorem d_X_cubeRoot_82 : decode prog_1_method_14_code 82 = .ok (.ladd, 1) := by decide +kernel
theorem d_X_cubeRoot_83 : decode prog_1_method_14_code 83 = .ok (.aload_n 0, 1) := by decide +kernel
theorem d_X_cubeRoot_84 : decode prog_1_method_14_code 84 = .ok (.getfield 13, 3) := by decide +kernel
theorem d_X_cubeRoot_87 : decode prog_1_method_14_code 87 = .ok (.iload_n 2, 1) := by decide +kernel
theorem d_X_cubeRoot_88 : decode prog_1_method_14_code 88 = .ok (.iaload, 1) := by decide +kernel
theorem d_X_cubeRoot_89 : decode prog_1_method_14_code 89 = .ok (.iload_n 1, 1) := by decide +kernel
theorem d_X_cubeRoot_90 : decode prog_1_method_14_code 90 = .ok (.invokevirtual 118, 3) := by decide +kernel
theorem d_X_cubeRoot_93 : decode prog_1_method_14_code 93 = .ok (.ifCond .le 7, 3) := by decide +kernel
theorem d_X_cubeRoot_96 : decode prog_1_method_14_code 96 = .ok (.iconst 1, 1) := by decide +kernel
theorem d_X_cubeRoot_97 : decode prog_1_method_14_code 97 = .ok (.goto 4, 3) := by decide +kernel
theorem d_X_cubeRoot_100 : decode prog_1_method_14_code 100 = .ok (.iconst 0, 1) := by decide +kernel
theorem d_X_cubeRoot_101 : decode prog_1_method_14_code 101 = .ok (.istore 5, 2) := by decide +kernel
theorem d_X_cubeRoot_103 : decode prog_1_method_14_code 103 = .ok (.iload 5, 2) := by decide +kernel
theorem d_X_cubeRoot_105 : decode prog_1_method_14_code 105 = .ok (.ifCond .eq 7, 3) := by decide +kernel
theorem d_X_cubeRoot_108 : decode prog_1_method_14_code 108 = .ok (.iconst 1, 1) := by decide +kernel
theorem d_X_cubeRoot_109 : decode prog_1_method_14_code 109 = .ok (.goto 4, 3) := by decide +kernel
theorem d_X_cubeRoot_112 : decode prog_1_method_14_code 112 = .ok (.iconst 0, 1) := by decide +kernel
theorem d_X_cubeRoot_113 : decode prog_1_method_14_code 113 = .ok (.ireturn, 1) := by decide +kernel
theorem d_X_compare_0 : decode prog_1_method_15_code 0 = .ok (.iload_n 1, 1) := by decide +kernel
theorem d_X_compare_1 : decode prog_1_method_15_code 1 = .ok (.invokestatic 30, 3) := by decide +kernel
theorem d_X_compare_4 : decode prog_1_method_15_code 4 = .ok (.ifCond .eq 10, 3) := by decide +kernel
theorem d_X_compare_7 : decode prog_1_method_15_code 7 = .ok (.iload_n 2, 1) := by decide +kernel
theorem d_X_compare_8 : decode prog_1_method_15_code 8 = .ok (.invokestatic 30, 3) := by decide +kernel
theorem d_X_compare_11 : decode prog_1_method_15_code 11 = .ok (.ifCond .ne 6, 3) := by decide +kernel
theorem d_X_compare_14 : decode prog_1_method_15_code 14 = .ok (.bipush (-2), 2) := by decide +kernel
theorem d_X_compare_16 : decode prog_1_method_15_code 16 = .ok (.ireturn, 1) := by decide +kernel
theorem d_X_compare_17 : decode prog_1_method_15_code 17 = .ok (.aload_n 0, 1) := by decide +kernel
theorem d_X_compare_18 : decode prog_1_method_15_code 18 = .ok (.getfield 9, 3) := by decide +kernel
theorem d_X_compare_21 : decode prog_1_method_15_code 21 = .ok (.iload_n 1, 1) := by decide +kernel
theorem d_X_compare_22 : decode prog_1_method_15_code 22 = .ok (.laload, 1) := by decide +kernel
theorem d_X_compare_23 : decode prog_1_method_15_code 23 = .ok (.invokestatic 115, 3) := by decide +kernel
theorem d_X_compare_26 : decode prog_1_method_15_code 26 = .ok (.istore_n 3, 1) := by decide +kernel
theorem d_X_compare_27 : decode prog_1_method_15_code 27 = .ok (.aload_n 0, 1) := by decide +kernel
theorem d_X_compare_28 : decode prog_1_method_15_code 28 = .ok (.getfield 9, 3) := by decide +kernel
theorem d_X_compare_31 : decode prog_1_method_15_code 31 = .ok (.iload_n 2, 1) := by decide +kernel
theorem d_X_compare_32 : decode prog_1_method_15_code 32 = .ok (.laload, 1) := by decide +kernel
theorem d_X_compare_33 : decode prog_1_method_15_code 33 = .ok (.invokestatic 115, 3) := by decide +kernel
theorem d_X_compare_36 : decode prog_1_method_15_code 36 = .ok (.istore 4, 2) := by decide +kernel
theorem d_X_compare_38 : decode prog_1_method_15_code 38 = .ok (.iload_n 3, 1) := by decide +kernel
theorem d_X_compare_39 : decode prog_1_method_15_code 39 = .ok (.iload 4, 2) := by decide +kernel
theorem d_X_compare_41 : decode prog_1_method_15_code 41 = .ok (.if_icmp .eq 15, 3) := by decide +kernel
theorem d_X_compare_44 : decode prog_1_method_15_code 44 = .ok (.iload_n 3, 1) := by decide +kernel
theorem d_X_compare_45 : decode prog_1_method_15_code 45 = .ok (.iload 4, 2) := by decide +kernel
theorem d_X_compare_47 : decode prog_1_method_15_code 47 = .ok (.if_icmp .ge 7, 3) := by decide +kernel
theorem d_X_compare_50 : decode prog_1_method_15_code 50 = .ok (.iconst (-1), 1) := by decide +kernel
theorem d_X_compare_51 : decode prog_1_method_15_code 51 = .ok (.goto 4, 3) := by decide +kernel
theorem d_X_compare_54 : decode prog_1_method_15_code 54 = .ok (.iconst 1, 1) := by decide +kernel
theorem d_X_compare_55 : decode prog_1_method_15_code 55 = .ok (.ireturn, 1) := by decide +kernel
theorem d_X_compare_56 : decode prog_1_method_15_code 56 = .ok (.iload_n 3, 1) := by decide +kernel
theorem d_X_compare_57 : decode prog_1_method_15_code 57 = .ok (.ifCond .eq 40, 3) := by decide +kernel
theorem d_X_compare_60 : decode prog_1_method_15_code 60 = .ok (.aload_n 0, 1) := by decide +kernel
theorem d_X_compare_61 : decode prog_1_method_15_code 61 = .ok (.getfield 13, 3) := by decide +kernel
theorem d_X_compare_64 : decode prog_1_method_15_code 64 = .ok (.iload_n 1, 1) := by decide +kernel
theorem d_X_compare_65 : decode prog_1_method_15_code 65 = .ok (.iaload, 1) := by decide +kernel
theorem d_X_compare_66 : decode prog_1_method_15_code 66 = .ok (.aload_n 0, 1) := by decide +kernel
theorem d_X_compare_67 : decode prog_1_method_15_code 67 = .ok (.getfield 13, 3) := by decide +kernel
theorem d_X_compare_70 : decode prog_1_method_15_code 70 = .ok (.iload_n 2, 1) := by decide +kernel
theorem d_X_compare_71 : decode prog_1_method_15_code 71 = .ok (.iaload, 1) := by decide +kernel
theorem d_X_compare_72 : decode prog_1_method_15_code 72 = .ok (.if_icmp .eq 25, 3) := by decide +kernel
theorem d_X_compare_75 : decode prog_1_method_15_code 75 = .ok (.aload_n 0, 1) := by decide +kernel
theorem d_X_compare_76 : decode prog_1_method_15_code 76 = .ok (.getfield 13, 3) := by decide +kernel
theorem d_X_compare_79 : decode prog_1_method_15_code 79 = .ok (.iload_n 1, 1) := by decide +kernel
theorem d_X_compare_80 : decode prog_1_method_15_code 80 = .ok (.iaload, 1) := by decide +kernel
theorem d_X_compare_81 : decode prog_1_method_15_code 81 = .ok (.aload_n 0, 1) := by decide +kernel
theorem d_X_compare_82 : decode prog_1_method_15_code 82 = .ok (.getfield 13, 3) := by decide +kernel
theorem d_X_compare_85 : decode prog_1_method_15_code 85 = .ok (.iload_n 2, 1) := by decide +kernel
theorem d_X_compare_86 : decode prog_1_method_15_code 86 = .ok (.iaload, 1) := by decide +kernel
theorem d_X_compare_87 : decode prog_1_method_15_code 87 = .ok (.if_icmp .ge 8, 3) := by decide +kernel
theorem d_X_compare_90 : decode prog_1_method_15_code 90 = .ok (.iload_n 3, 1) := by decide +kernel
theorem d_X_compare_91 : decode prog_1_method_15_code 91 = .ok (.ineg, 1) := by decide +kernel
theorem d_X_compare_92 : decode prog_1_method_15_code 92 = .ok (.goto 4, 3) := by decide +kernel
theorem d_X_compare_95 : decode prog_1_method_15_code 95 = .ok (.iload_n 3, 1) := by decide +kernel
theorem d_X_compare_96 : decode prog_1_method_15_code 96 = .ok (.ireturn, 1) := by decide +kernel
theorem d_X_compare_97 : decode prog_1_method_15_code 97 = .ok (.aload_n 0, 1) := by decide +kernel
theorem d_X_compare_98 : decode prog_1_method_15_code 98 = .ok (.getfield 9, 3) := by decide +kernel
theorem d_X_compare_101 : decode prog_1_method_15_code 101 = .ok (.iload_n 1, 1) := by decide +kernel
theorem d_X_compare_102 : decode prog_1_method_15_code 102 = .ok (.laload, 1) := by decide +kernel
theorem d_X_compare_103 : decode prog_1_method_15_code 103 = .ok (.aload_n 0, 1) := by decide +kernel
theorem d_X_compare_104 : decode prog_1_method_15_code 104 = .ok (.getfield 9, 3) := by decide +kernel
theorem d_X_compare_107 : decode prog_1_method_15_code 107 = .ok (.iload_n 2, 1) := by decide +kernel
theorem d_X_compare_108 : decode prog_1_method_15_code 108 = .ok (.laload, 1) := by decide +kernel
theorem d_X_compare_109 : decode prog_1_method_15_code 109 = .ok (.invokestatic 122, 3) := by decide +kernel
theorem d_X_compare_112 : decode prog_1_method_15_code 112 = .ok (.ireturn, 1) := by decide +kernel
theorem d_X_odd_0 : decode prog_1_method_16_code 0 = .ok (.iload_n 1, 1) := by decide +kernel
theorem d_X_odd_1 : decode prog_1_method_16_code 1 = .ok (.invokestatic 30, 3) := by decide +kernel
theorem d_X_odd_4 : decode prog_1_method_16_code 4 = .ok (.ifCond .ne 7, 3) := by decide +kernel
theorem d_X_odd_7 : decode prog_1_method_16_code 7 = .ok (.ldc2_w 126, 3) := by decide +kernel
theorem d_X_odd_10 : decode prog_1_method_16_code 10 = .ok (.lreturn, 1) := by decide +kernel
theorem d_X_odd_11 : decode prog_1_method_16_code 11 = .ok (.aload_n 0, 1) := by decide +kernel
theorem d_X_odd_12 : decode prog_1_method_16_code 12 = .ok (.getfield 9, 3) := by decide +kernel
theorem d_X_odd_15 : decode prog_1_method_16_code 15 = .ok (.iload_n 1, 1) := by decide +kernel
theorem d_X_odd_16 : decode prog_1_method_16_code 16 = .ok (.laload, 1) := by decide +kernel
theorem d_X_odd_17 : decode prog_1_method_16_code 17 = .ok (.lconst 0, 1) := by decide +kernel
theorem d_X_odd_18 : decode prog_1_method_16_code 18 = .ok (.lcmp, 1) := by decide +kernel
theorem d_X_odd_19 : decode prog_1_method_16_code 19 = .ok (.ifCond .ne 7, 3) := by decide +kernel
theorem d_X_odd_22 : decode prog_1_method_16_code 22 = .ok (.lconst 0, 1) := by decide +kernel
theorem d_X_odd_23 : decode prog_1_method_16_code 23 = .ok (.goto 19, 3) := by decide +kernel
theorem d_X_odd_26 : decode prog_1_method_16_code 26 = .ok (.aload_n 0, 1) := by decide +kernel
theorem d_X_odd_27 : decode prog_1_method_16_code 27 = .ok (.getfield 9, 3) := by decide +kernel
theorem d_X_odd_30 : decode prog_1_method_16_code 30 = .ok (.iload_n 1, 1) := by decide +kernel
theorem d_X_odd_31 : decode prog_1_method_16_code 31 = .ok (.laload, 1) := by decide +kernel
theorem d_X_odd_32 : decode prog_1_method_16_code 32 = .ok (.aload_n 0, 1) := by decide +kernel
theorem d_X_odd_33 : decode prog_1_method_16_code 33 = .ok (.getfield 9, 3) := by decide +kernel
theorem d_X_odd_36 : decode prog_1_method_16_code 36 = .ok (.iload_n 1, 1) := by decide +kernel
theorem d_X_odd_37 : decode prog_1_method_16_code 37 = .ok (.laload, 1) := by decide +kernel
theorem d_X_odd_38 : decode prog_1_method_16_code 38 = .ok (.invokestatic 128, 3) := by decide +kernel
theorem d_X_odd_41 : decode prog_1_method_16_code 41 = .ok (.lshr, 1) := by decide +kernel
theorem d_X_odd_42 : decode prog_1_method_16_code 42 = .ok (.lreturn, 1) := by decide +kernel
theorem d_X_exponent_0 : decode prog_1_method_17_code 0 = .ok (.iload_n 1, 1) := by decide +kernel
theorem d_X_exponent_1 : decode prog_1_method_17_code 1 = .ok (.invokestatic 30, 3) := by decide +kernel
theorem d_X_exponent_4 : decode prog_1_method_17_code 4 = .ok (.ifCond .ne 7, 3) := by decide +kernel
theorem d_X_exponent_7 : decode prog_1_method_17_code 7 = .ok (.ldc2_w 126, 3) := by decide +kernel
theorem d_X_exponent_10 : decode prog_1_method_17_code 10 = .ok (.lreturn, 1) := by decide +kernel
theorem d_X_exponent_11 : decode prog_1_method_17_code 11 = .ok (.aload_n 0, 1) := by decide +kernel
theorem d_X_exponent_12 : decode prog_1_method_17_code 12 = .ok (.getfield 9, 3) := by decide +kernel
theorem d_X_exponent_15 : decode prog_1_method_17_code 15 = .ok (.iload_n 1, 1) := by decide +kernel
theorem d_X_exponent_16 : decode prog_1_method_17_code 16 = .ok (.laload, 1) := by decide +kernel
theorem d_X_exponent_17 : decode prog_1_method_17_code 17 = .ok (.lconst 0, 1) := by decide +kernel
theorem d_X_exponent_18 : decode prog_1_method_17_code 18 = .ok (.lcmp, 1) := by decide +kernel
theorem d_X_exponent_19 : decode prog_1_method_17_code 19 = .ok (.ifCond .ne 7, 3) := by decide +kernel
theorem d_X_exponent_22 : decode prog_1_method_17_code 22 = .ok (.lconst 0, 1) := by decide +kernel
theorem d_X_exponent_23 : decode prog_1_method_17_code 23 = .ok (.goto 20, 3) := by decide +kernel
theorem d_X_exponent_26 : decode prog_1_method_17_code 26 = .ok (.aload_n 0, 1) := by decide +kernel
theorem d_X_exponent_27 : decode prog_1_method_17_code 27 = .ok (.getfield 13, 3) := by decide +kernel
theorem d_X_exponent_30 : decode prog_1_method_17_code 30 = .ok (.iload_n 1, 1) := by decide +kernel
theorem d_X_exponent_31 : decode prog_1_method_17_code 31 = .ok (.iaload, 1) := by decide +kernel
theorem d_X_exponent_32 : decode prog_1_method_17_code 32 = .ok (.aload_n 0, 1) := by decide +kernel
theorem d_X_exponent_33 : decode prog_1_method_17_code 33 = .ok (.getfield 9, 3) := by decide +kernel
theorem d_X_exponent_36 : decode prog_1_method_17_code 36 = .ok (.iload_n 1, 1) := by decide +kernel
theorem d_X_exponent_37 : decode prog_1_method_17_code 37 = .ok (.laload, 1) := by decide +kernel
theorem d_X_exponent_38 : decode prog_1_method_17_code 38 = .ok (.invokestatic 128, 3) := by decide +kernel
theorem d_X_exponent_41 : decode prog_1_method_17_code 41 = .ok (.iadd, 1) := by decide +kernel
theorem d_X_exponent_42 : decode prog_1_method_17_code 42 = .ok (.i2l, 1) := by decide +kernel
theorem d_X_exponent_43 : decode prog_1_method_17_code 43 = .ok (.lreturn, 1) := by decide +kernel
theorem d_X_whole_0 : decode prog_1_method_18_code 0 = .ok (.iload_n 1, 1) := by decide +kernel
theorem d_X_whole_1 : decode prog_1_method_18_code 1 = .ok (.invokestatic 30, 3) := by decide +kernel
theorem d_X_whole_4 : decode prog_1_method_18_code 4 = .ok (.ifCond .ne 7, 3) := by decide +kernel
theorem d_X_whole_7 : decode prog_1_method_18_code 7 = .ok (.ldc2_w 126, 3) := by decide +kernel
theorem d_X_whole_10 : decode prog_1_method_18_code 10 = .ok (.lreturn, 1) := by decide +kernel
theorem d_X_whole_11 : decode prog_1_method_18_code 11 = .ok (.iload_n 2, 1) := by decide +kernel
theorem d_X_whole_12 : decode prog_1_method_18_code 12 = .ok (.ifCond .eq 9, 3) := by decide +kernel
theorem d_X_whole_15 : decode prog_1_method_18_code 15 = .ok (.ldc2_w 131, 3) := by decide +kernel
theorem d_X_whole_18 : decode prog_1_method_18_code 18 = .ok (.goto 6, 3) := by decide +kernel
theorem d_X_whole_21 : decode prog_1_method_18_code 21 = .ok (.ldc2_w 133, 3) := by decide +kernel
theorem d_X_whole_24 : decode prog_1_method_18_code 24 = .ok (.lstore_n 3, 1) := by decide +kernel
theorem d_X_whole_25 : decode prog_1_method_18_code 25 = .ok (.iload_n 2, 1) := by decide +kernel
theorem d_X_whole_26 : decode prog_1_method_18_code 26 = .ok (.ifCond .eq 9, 3) := by decide +kernel
theorem d_X_whole_29 : decode prog_1_method_18_code 29 = .ok (.ldc2_w 135, 3) := by decide +kernel
theorem d_X_whole_32 : decode prog_1_method_18_code 32 = .ok (.goto 6, 3) := by decide +kernel
theorem d_X_whole_35 : decode prog_1_method_18_code 35 = .ok (.ldc2_w 137, 3) := by decide +kernel
theorem d_X_whole_38 : decode prog_1_method_18_code 38 = .ok (.lstore 5, 2) := by decide +kernel
theorem d_X_whole_40 : decode prog_1_method_18_code 40 = .ok (.aload_n 0, 1) := by decide +kernel
theorem d_X_whole_41 : decode prog_1_method_18_code 41 = .ok (.iload_n 1, 1) := by decide +kernel
theorem d_X_whole_42 : decode prog_1_method_18_code 42 = .ok (.invokevirtual 109, 3) := by decide +kernel
theorem d_X_whole_45 : decode prog_1_method_18_code 45 = .ok (.bipush 63, 2) := by decide +kernel
theorem d_X_whole_47 : decode prog_1_method_18_code 47 = .ok (.if_icmp .lt 21, 3) := by decide +kernel
theorem d_X_whole_50 : decode prog_1_method_18_code 50 = .ok (.aload_n 0, 1) := by decide +kernel
theorem d_X_whole_51 : decode prog_1_method_18_code 51 = .ok (.getfield 9, 3) := by decide +kernel
theorem d_X_whole_54 : decode prog_1_method_18_code 54 = .ok (.iload_n 1, 1) := by decide +kernel
theorem d_X_whole_55 : decode prog_1_method_18_code 55 = .ok (.laload, 1) := by decide +kernel
theorem d_X_whole_56 : decode prog_1_method_18_code 56 = .ok (.lconst 0, 1) := by decide +kernel
theorem d_X_whole_57 : decode prog_1_method_18_code 57 = .ok (.lcmp, 1) := by decide +kernel
theorem d_X_whole_58 : decode prog_1_method_18_code 58 = .ok (.ifCond .ge 7, 3) := by decide +kernel
theorem d_X_whole_61 : decode prog_1_method_18_code 61 = .ok (.lload_n 3, 1) := by decide +kernel
theorem d_X_whole_62 : decode prog_1_method_18_code 62 = .ok (.goto 5, 3) := by decide +kernel
theorem d_X_whole_65 : decode prog_1_method_18_code 65 = .ok (.lload 5, 2) := by decide +kernel
theorem d_X_whole_67 : decode prog_1_method_18_code 67 = .ok (.lreturn, 1) := by decide +kernel
theorem d_X_whole_68 : decode prog_1_method_18_code 68 = .ok (.aload_n 0, 1) := by decide +kernel
theorem d_X_whole_69 : decode prog_1_method_18_code 69 = .ok (.getfield 9, 3) := by decide +kernel
theorem d_X_whole_72 : decode prog_1_method_18_code 72 = .ok (.iload_n 1, 1) := by decide +kernel
theorem d_X_whole_73 : decode prog_1_method_18_code 73 = .ok (.laload, 1) := by decide +kernel
theorem d_X_whole_74 : decode prog_1_method_18_code 74 = .ok (.invokestatic 84, 3) := by decide +kernel
theorem d_X_whole_77 : decode prog_1_method_18_code 77 = .ok (.aload_n 0, 1) := by decide +kernel
theorem d_X_whole_78 : decode prog_1_method_18_code 78 = .ok (.getfield 13, 3) := by decide +kernel
theorem d_X_whole_81 : decode prog_1_method_18_code 81 = .ok (.iload_n 1, 1) := by decide +kernel
theorem d_X_whole_82 : decode prog_1_method_18_code 82 = .ok (.iaload, 1) := by decide +kernel
theorem d_X_whole_83 : decode prog_1_method_18_code 83 = .ok (.invokestatic 139, 3) := by decide +kernel
theorem d_X_whole_86 : decode prog_1_method_18_code 86 = .ok (.lstore 7, 2) := by decide +kernel
theorem d_X_whole_88 : decode prog_1_method_18_code 88 = .ok (.aload_n 0, 1) := by decide +kernel
theorem d_X_whole_89 : decode prog_1_method_18_code 89 = .ok (.getfield 9, 3) := by decide +kernel
theorem d_X_whole_92 : decode prog_1_method_18_code 92 = .ok (.iload_n 1, 1) := by decide +kernel
theorem d_X_whole_93 : decode prog_1_method_18_code 93 = .ok (.laload, 1) := by decide +kernel
theorem d_X_whole_94 : decode prog_1_method_18_code 94 = .ok (.lconst 0, 1) := by decide +kernel
theorem d_X_whole_95 : decode prog_1_method_18_code 95 = .ok (.lcmp, 1) := by decide +kernel
theorem d_X_whole_96 : decode prog_1_method_18_code 96 = .ok (.ifCond .ge 9, 3) := by decide +kernel
theorem d_X_whole_99 : decode prog_1_method_18_code 99 = .ok (.lload 7, 2) := by decide +kernel
theorem d_X_whole_101 : decode prog_1_method_18_code 101 = .ok (.lneg, 1) := by decide +kernel
theorem d_X_whole_102 : decode prog_1_method_18_code 102 = .ok (.goto 5, 3) := by decide +kernel
theorem d_X_whole_105 : decode prog_1_method_18_code 105 = .ok (.lload 7, 2) := by decide +kernel
theorem d_X_whole_107 : decode prog_1_method_18_code 107 = .ok (.lstore 9, 2) := by decide +kernel
theorem d_X_whole_109 : decode prog_1_method_18_code 109 = .ok (.lload_n 3, 1) := by decide +kernel
theorem d_X_whole_110 : decode prog_1_method_18_code 110 = .ok (.lload 5, 2) := by decide +kernel
theorem d_X_whole_112 : decode prog_1_method_18_code 112 = .ok (.lload 9, 2) := by decide +kernel
theorem d_X_whole_114 : decode prog_1_method_18_code 114 = .ok (.invokestatic 143, 3) := by decide +kernel
theorem d_X_whole_117 : decode prog_1_method_18_code 117 = .ok (.invokestatic 147, 3) := by decide +kernel
theorem d_X_whole_120 : decode prog_1_method_18_code 120 = .ok (.lreturn, 1) := by decide +kernel
theorem d_X_count_0 : decode prog_1_method_19_code 0 = .ok (.iload_n 1, 1) := by decide +kernel
theorem d_X_count_1 : decode prog_1_method_19_code 1 = .ok (.tableswitch 51 0 3 #[31, 36, 41, 46], 31) := by decide +kernel
theorem d_X_count_32 : decode prog_1_method_19_code 32 = .ok (.aload_n 0, 1) := by decide +kernel
theorem d_X_count_33 : decode prog_1_method_19_code 33 = .ok (.getfield 150, 3) := by decide +kernel
theorem d_X_count_36 : decode prog_1_method_19_code 36 = .ok (.ireturn, 1) := by decide +kernel
theorem d_X_count_37 : decode prog_1_method_19_code 37 = .ok (.aload_n 0, 1) := by decide +kernel
theorem d_X_count_38 : decode prog_1_method_19_code 38 = .ok (.invokevirtual 154, 3) := by decide +kernel
theorem d_X_count_41 : decode prog_1_method_19_code 41 = .ok (.ireturn, 1) := by decide +kernel
theorem d_X_count_42 : decode prog_1_method_19_code 42 = .ok (.aload_n 0, 1) := by decide +kernel
theorem d_X_count_43 : decode prog_1_method_19_code 43 = .ok (.getfield 157, 3) := by decide +kernel
theorem d_X_count_46 : decode prog_1_method_19_code 46 = .ok (.ireturn, 1) := by decide +kernel
theorem d_X_count_47 : decode prog_1_method_19_code 47 = .ok (.aload_n 0, 1) := by decide +kernel
theorem d_X_count_48 : decode prog_1_method_19_code 48 = .ok (.getfield 160, 3) := by decide +kernel
theorem d_X_count_51 : decode prog_1_method_19_code 51 = .ok (.ireturn, 1) := by decide +kernel
theorem d_X_count_52 : decode prog_1_method_19_code 52 = .ok (.bipush (-100), 2) := by decide +kernel
theorem d_X_count_54 : decode prog_1_method_19_code 54 = .ok (.ireturn, 1) := by decide +kernel
