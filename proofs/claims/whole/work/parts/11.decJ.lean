theorem d_JL_signum_0 : decode prog_6_method_57_code 0 = .ok (.lload_n 0, 1) := by decide +kernel
theorem d_JL_signum_1 : decode prog_6_method_57_code 1 = .ok (.bipush 63, 2) := by decide +kernel
theorem d_JL_signum_3 : decode prog_6_method_57_code 3 = .ok (.lshr, 1) := by decide +kernel
theorem d_JL_signum_4 : decode prog_6_method_57_code 4 = .ok (.lload_n 0, 1) := by decide +kernel
theorem d_JL_signum_5 : decode prog_6_method_57_code 5 = .ok (.lneg, 1) := by decide +kernel
theorem d_JL_signum_6 : decode prog_6_method_57_code 6 = .ok (.bipush 63, 2) := by decide +kernel
theorem d_JL_signum_8 : decode prog_6_method_57_code 8 = .ok (.lushr, 1) := by decide +kernel
theorem d_JL_signum_9 : decode prog_6_method_57_code 9 = .ok (.lor, 1) := by decide +kernel
theorem d_JL_signum_10 : decode prog_6_method_57_code 10 = .ok (.l2i, 1) := by decide +kernel
theorem d_JL_signum_11 : decode prog_6_method_57_code 11 = .ok (.ireturn, 1) := by decide +kernel
theorem d_JI_numberOfLeadingZeros_0 : decode prog_5_method_47_code 0 = .ok (.iload_n 0, 1) := by decide +kernel
theorem d_JI_numberOfLeadingZeros_1 : decode prog_5_method_47_code 1 = .ok (.ifCond .gt 14, 3) := by decide +kernel
theorem d_JI_numberOfLeadingZeros_4 : decode prog_5_method_47_code 4 = .ok (.iload_n 0, 1) := by decide +kernel
theorem d_JI_numberOfLeadingZeros_5 : decode prog_5_method_47_code 5 = .ok (.ifCond .ne 8, 3) := by decide +kernel
theorem d_JI_numberOfLeadingZeros_8 : decode prog_5_method_47_code 8 = .ok (.bipush 32, 2) := by decide +kernel
theorem d_JI_numberOfLeadingZeros_10 : decode prog_5_method_47_code 10 = .ok (.goto 4, 3) := by decide +kernel
theorem d_JI_numberOfLeadingZeros_13 : decode prog_5_method_47_code 13 = .ok (.iconst 0, 1) := by decide +kernel
theorem d_JI_numberOfLeadingZeros_14 : decode prog_5_method_47_code 14 = .ok (.ireturn, 1) := by decide +kernel
theorem d_JI_numberOfLeadingZeros_15 : decode prog_5_method_47_code 15 = .ok (.bipush 31, 2) := by decide +kernel
theorem d_JI_numberOfLeadingZeros_17 : decode prog_5_method_47_code 17 = .ok (.istore_n 1, 1) := by decide +kernel
theorem d_JI_numberOfLeadingZeros_18 : decode prog_5_method_47_code 18 = .ok (.iload_n 0, 1) := by decide +kernel
theorem d_JI_numberOfLeadingZeros_19 : decode prog_5_method_47_code 19 = .ok (.ldc_w 264, 3) := by decide +kernel
theorem d_JI_numberOfLeadingZeros_22 : decode prog_5_method_47_code 22 = .ok (.if_icmp .lt 11, 3) := by decide +kernel
theorem d_JI_numberOfLeadingZeros_25 : decode prog_5_method_47_code 25 = .ok (.iinc 1 (-16), 3) := by decide +kernel
theorem d_JI_numberOfLeadingZeros_28 : decode prog_5_method_47_code 28 = .ok (.iload_n 0, 1) := by decide +kernel
theorem d_JI_numberOfLeadingZeros_29 : decode prog_5_method_47_code 29 = .ok (.bipush 16, 2) := by decide +kernel
theorem d_JI_numberOfLeadingZeros_31 : decode prog_5_method_47_code 31 = .ok (.iushr, 1) := by decide +kernel
theorem d_JI_numberOfLeadingZeros_32 : decode prog_5_method_47_code 32 = .ok (.istore_n 0, 1) := by decide +kernel
theorem d_JI_numberOfLeadingZeros_33 : decode prog_5_method_47_code 33 = .ok (.iload_n 0, 1) := by decide +kernel
theorem d_JI_numberOfLeadingZeros_34 : decode prog_5_method_47_code 34 = .ok (.sipush 256, 3) := by decide +kernel
theorem d_JI_numberOfLeadingZeros_37 : decode prog_5_method_47_code 37 = .ok (.if_icmp .lt 11, 3) := by decide +kernel
theorem d_JI_numberOfLeadingZeros_40 : decode prog_5_method_47_code 40 = .ok (.iinc 1 (-8), 3) := by decide +kernel
theorem d_JI_numberOfLeadingZeros_43 : decode prog_5_method_47_code 43 = .ok (.iload_n 0, 1) := by decide +kernel
theorem d_JI_numberOfLeadingZeros_44 : decode prog_5_method_47_code 44 = .ok (.bipush 8, 2) := by decide +kernel
theorem d_JI_numberOfLeadingZeros_46 : decode prog_5_method_47_code 46 = .ok (.iushr, 1) := by decide +kernel
theorem d_JI_numberOfLeadingZeros_47 : decode prog_5_method_47_code 47 = .ok (.istore_n 0, 1) := by decide +kernel
theorem d_JI_numberOfLeadingZeros_48 : decode prog_5_method_47_code 48 = .ok (.iload_n 0, 1) := by decide +kernel
theorem d_JI_numberOfLeadingZeros_49 : decode prog_5_method_47_code 49 = .ok (.bipush 16, 2) := by decide +kernel
theorem d_JI_numberOfLeadingZeros_51 : decode prog_5_method_47_code 51 = .ok (.if_icmp .lt 10, 3) := by decide +kernel
theorem d_JI_numberOfLeadingZeros_54 : decode prog_5_method_47_code 54 = .ok (.iinc 1 (-4), 3) := by decide +kernel
theorem d_JI_numberOfLeadingZeros_57 : decode prog_5_method_47_code 57 = .ok (.iload_n 0, 1) := by decide +kernel
theorem d_JI_numberOfLeadingZeros_58 : decode prog_5_method_47_code 58 = .ok (.iconst 4, 1) := by decide +kernel
theorem d_JI_numberOfLeadingZeros_59 : decode prog_5_method_47_code 59 = .ok (.iushr, 1) := by decide +kernel
theorem d_JI_numberOfLeadingZeros_60 : decode prog_5_method_47_code 60 = .ok (.istore_n 0, 1) := by decide +kernel
theorem d_JI_numberOfLeadingZeros_61 : decode prog_5_method_47_code 61 = .ok (.iload_n 0, 1) := by decide +kernel
theorem d_JI_numberOfLeadingZeros_62 : decode prog_5_method_47_code 62 = .ok (.iconst 4, 1) := by decide +kernel
theorem d_JI_numberOfLeadingZeros_63 : decode prog_5_method_47_code 63 = .ok (.if_icmp .lt 10, 3) := by decide +kernel
theorem d_JI_numberOfLeadingZeros_66 : decode prog_5_method_47_code 66 = .ok (.iinc 1 (-2), 3) := by decide +kernel
theorem d_JI_numberOfLeadingZeros_69 : decode prog_5_method_47_code 69 = .ok (.iload_n 0, 1) := by decide +kernel
theorem d_JI_numberOfLeadingZeros_70 : decode prog_5_method_47_code 70 = .ok (.iconst 2, 1) := by decide +kernel
theorem d_JI_numberOfLeadingZeros_71 : decode prog_5_method_47_code 71 = .ok (.iushr, 1) := by decide +kernel
theorem d_JI_numberOfLeadingZeros_72 : decode prog_5_method_47_code 72 = .ok (.istore_n 0, 1) := by decide +kernel
theorem d_JI_numberOfLeadingZeros_73 : decode prog_5_method_47_code 73 = .ok (.iload_n 1, 1) := by decide +kernel
theorem d_JI_numberOfLeadingZeros_74 : decode prog_5_method_47_code 74 = .ok (.iload_n 0, 1) := by decide +kernel
theorem d_JI_numberOfLeadingZeros_75 : decode prog_5_method_47_code 75 = .ok (.iconst 1, 1) := by decide +kernel
theorem d_JI_numberOfLeadingZeros_76 : decode prog_5_method_47_code 76 = .ok (.iushr, 1) := by decide +kernel
theorem d_JI_numberOfLeadingZeros_77 : decode prog_5_method_47_code 77 = .ok (.isub, 1) := by decide +kernel
theorem d_JI_numberOfLeadingZeros_78 : decode prog_5_method_47_code 78 = .ok (.ireturn, 1) := by decide +kernel
theorem d_JL_numberOfLeadingZeros_0 : decode prog_6_method_48_code 0 = .ok (.lload_n 0, 1) := by decide +kernel
theorem d_JL_numberOfLeadingZeros_1 : decode prog_6_method_48_code 1 = .ok (.bipush 32, 2) := by decide +kernel
theorem d_JL_numberOfLeadingZeros_3 : decode prog_6_method_48_code 3 = .ok (.lushr, 1) := by decide +kernel
theorem d_JL_numberOfLeadingZeros_4 : decode prog_6_method_48_code 4 = .ok (.l2i, 1) := by decide +kernel
theorem d_JL_numberOfLeadingZeros_5 : decode prog_6_method_48_code 5 = .ok (.istore_n 2, 1) := by decide +kernel
theorem d_JL_numberOfLeadingZeros_6 : decode prog_6_method_48_code 6 = .ok (.iload_n 2, 1) := by decide +kernel
theorem d_JL_numberOfLeadingZeros_7 : decode prog_6_method_48_code 7 = .ok (.ifCond .ne 14, 3) := by decide +kernel
theorem d_JL_numberOfLeadingZeros_10 : decode prog_6_method_48_code 10 = .ok (.bipush 32, 2) := by decide +kernel
theorem d_JL_numberOfLeadingZeros_12 : decode prog_6_method_48_code 12 = .ok (.lload_n 0, 1) := by decide +kernel
theorem d_JL_numberOfLeadingZeros_13 : decode prog_6_method_48_code 13 = .ok (.l2i, 1) := by decide +kernel
theorem d_JL_numberOfLeadingZeros_14 : decode prog_6_method_48_code 14 = .ok (.invokestatic 308, 3) := by decide +kernel
theorem d_JL_numberOfLeadingZeros_17 : decode prog_6_method_48_code 17 = .ok (.iadd, 1) := by decide +kernel
theorem d_JL_numberOfLeadingZeros_18 : decode prog_6_method_48_code 18 = .ok (.goto 7, 3) := by decide +kernel
theorem d_JL_numberOfLeadingZeros_21 : decode prog_6_method_48_code 21 = .ok (.iload_n 2, 1) := by decide +kernel
theorem d_JL_numberOfLeadingZeros_22 : decode prog_6_method_48_code 22 = .ok (.invokestatic 308, 3) := by decide +kernel
theorem d_JL_numberOfLeadingZeros_25 : decode prog_6_method_48_code 25 = .ok (.ireturn, 1) := by decide +kernel
theorem d_JI_numberOfTrailingZeros_0 : decode prog_5_method_48_code 0 = .ok (.iload_n 0, 1) := by decide +kernel
theorem d_JI_numberOfTrailingZeros_1 : decode prog_5_method_48_code 1 = .ok (.iconst (-1), 1) := by decide +kernel
theorem d_JI_numberOfTrailingZeros_2 : decode prog_5_method_48_code 2 = .ok (.ixor, 1) := by decide +kernel
theorem d_JI_numberOfTrailingZeros_3 : decode prog_5_method_48_code 3 = .ok (.iload_n 0, 1) := by decide +kernel
theorem d_JI_numberOfTrailingZeros_4 : decode prog_5_method_48_code 4 = .ok (.iconst 1, 1) := by decide +kernel
theorem d_JI_numberOfTrailingZeros_5 : decode prog_5_method_48_code 5 = .ok (.isub, 1) := by decide +kernel
theorem d_JI_numberOfTrailingZeros_6 : decode prog_5_method_48_code 6 = .ok (.iand, 1) := by decide +kernel
theorem d_JI_numberOfTrailingZeros_7 : decode prog_5_method_48_code 7 = .ok (.istore_n 0, 1) := by decide +kernel
theorem d_JI_numberOfTrailingZeros_8 : decode prog_5_method_48_code 8 = .ok (.iload_n 0, 1) := by decide +kernel
theorem d_JI_numberOfTrailingZeros_9 : decode prog_5_method_48_code 9 = .ok (.ifCond .gt 8, 3) := by decide +kernel
theorem d_JI_numberOfTrailingZeros_12 : decode prog_5_method_48_code 12 = .ok (.iload_n 0, 1) := by decide +kernel
theorem d_JI_numberOfTrailingZeros_13 : decode prog_5_method_48_code 13 = .ok (.bipush 32, 2) := by decide +kernel
theorem d_JI_numberOfTrailingZeros_15 : decode prog_5_method_48_code 15 = .ok (.iand, 1) := by decide +kernel
theorem d_JI_numberOfTrailingZeros_16 : decode prog_5_method_48_code 16 = .ok (.ireturn, 1) := by decide +kernel
theorem d_JI_numberOfTrailingZeros_17 : decode prog_5_method_48_code 17 = .ok (.iconst 1, 1) := by decide +kernel
theorem d_JI_numberOfTrailingZeros_18 : decode prog_5_method_48_code 18 = .ok (.istore_n 1, 1) := by decide +kernel
theorem d_JI_numberOfTrailingZeros_19 : decode prog_5_method_48_code 19 = .ok (.iload_n 0, 1) := by decide +kernel
theorem d_JI_numberOfTrailingZeros_20 : decode prog_5_method_48_code 20 = .ok (.ldc_w 264, 3) := by decide +kernel
theorem d_JI_numberOfTrailingZeros_23 : decode prog_5_method_48_code 23 = .ok (.if_icmp .le 11, 3) := by decide +kernel
theorem d_JI_numberOfTrailingZeros_26 : decode prog_5_method_48_code 26 = .ok (.iinc 1 16, 3) := by decide +kernel
theorem d_JI_numberOfTrailingZeros_29 : decode prog_5_method_48_code 29 = .ok (.iload_n 0, 1) := by decide +kernel
theorem d_JI_numberOfTrailingZeros_30 : decode prog_5_method_48_code 30 = .ok (.bipush 16, 2) := by decide +kernel
theorem d_JI_numberOfTrailingZeros_32 : decode prog_5_method_48_code 32 = .ok (.iushr, 1) := by decide +kernel
theorem d_JI_numberOfTrailingZeros_33 : decode prog_5_method_48_code 33 = .ok (.istore_n 0, 1) := by decide +kernel
theorem d_JI_numberOfTrailingZeros_34 : decode prog_5_method_48_code 34 = .ok (.iload_n 0, 1) := by decide +kernel
theorem d_JI_numberOfTrailingZeros_35 : decode prog_5_method_48_code 35 = .ok (.sipush 256, 3) := by decide +kernel
theorem d_JI_numberOfTrailingZeros_38 : decode prog_5_method_48_code 38 = .ok (.if_icmp .le 11, 3) := by decide +kernel
theorem d_JI_numberOfTrailingZeros_41 : decode prog_5_method_48_code 41 = .ok (.iinc 1 8, 3) := by decide +kernel
theorem d_JI_numberOfTrailingZeros_44 : decode prog_5_method_48_code 44 = .ok (.iload_n 0, 1) := by decide +kernel
theorem d_JI_numberOfTrailingZeros_45 : decode prog_5_method_48_code 45 = .ok (.bipush 8, 2) := by decide +kernel
theorem d_JI_numberOfTrailingZeros_47 : decode prog_5_method_48_code 47 = .ok (.iushr, 1) := by decide +kernel
theorem d_JI_numberOfTrailingZeros_48 : decode prog_5_method_48_code 48 = .ok (.istore_n 0, 1) := by decide +kernel
theorem d_JI_numberOfTrailingZeros_49 : decode prog_5_method_48_code 49 = .ok (.iload_n 0, 1) := by decide +kernel
theorem d_JI_numberOfTrailingZeros_50 : decode prog_5_method_48_code 50 = .ok (.bipush 16, 2) := by decide +kernel
theorem d_JI_numberOfTrailingZeros_52 : decode prog_5_method_48_code 52 = .ok (.if_icmp .le 10, 3) := by decide +kernel
theorem d_JI_numberOfTrailingZeros_55 : decode prog_5_method_48_code 55 = .ok (.iinc 1 4, 3) := by decide +kernel
theorem d_JI_numberOfTrailingZeros_58 : decode prog_5_method_48_code 58 = .ok (.iload_n 0, 1) := by decide +kernel
theorem d_JI_numberOfTrailingZeros_59 : decode prog_5_method_48_code 59 = .ok (.iconst 4, 1) := by decide +kernel
theorem d_JI_numberOfTrailingZeros_60 : decode prog_5_method_48_code 60 = .ok (.iushr, 1) := by decide +kernel
theorem d_JI_numberOfTrailingZeros_61 : decode prog_5_method_48_code 61 = .ok (.istore_n 0, 1) := by decide +kernel
theorem d_JI_numberOfTrailingZeros_62 : decode prog_5_method_48_code 62 = .ok (.iload_n 0, 1) := by decide +kernel
theorem d_JI_numberOfTrailingZeros_63 : decode prog_5_method_48_code 63 = .ok (.iconst 4, 1) := by decide +kernel
theorem d_JI_numberOfTrailingZeros_64 : decode prog_5_method_48_code 64 = .ok (.if_icmp .le 10, 3) := by decide +kernel
theorem d_JI_numberOfTrailingZeros_67 : decode prog_5_method_48_code 67 = .ok (.iinc 1 2, 3) := by decide +kernel
theorem d_JI_numberOfTrailingZeros_70 : decode prog_5_method_48_code 70 = .ok (.iload_n 0, 1) := by decide +kernel
theorem d_JI_numberOfTrailingZeros_71 : decode prog_5_method_48_code 71 = .ok (.iconst 2, 1) := by decide +kernel
theorem d_JI_numberOfTrailingZeros_72 : decode prog_5_method_48_code 72 = .ok (.iushr, 1) := by decide +kernel
theorem d_JI_numberOfTrailingZeros_73 : decode prog_5_method_48_code 73 = .ok (.istore_n 0, 1) := by decide +kernel
theorem d_JI_numberOfTrailingZeros_74 : decode prog_5_method_48_code 74 = .ok (.iload_n 1, 1) := by decide +kernel
theorem d_JI_numberOfTrailingZeros_75 : decode prog_5_method_48_code 75 = .ok (.iload_n 0, 1) := by decide +kernel
theorem d_JI_numberOfTrailingZeros_76 : decode prog_5_method_48_code 76 = .ok (.iconst 1, 1) := by decide +kernel
theorem d_JI_numberOfTrailingZeros_77 : decode prog_5_method_48_code 77 = .ok (.iushr, 1) := by decide +kernel
theorem d_JI_numberOfTrailingZeros_78 : decode prog_5_method_48_code 78 = .ok (.iadd, 1) := by decide +kernel
theorem d_JI_numberOfTrailingZeros_79 : decode prog_5_method_48_code 79 = .ok (.ireturn, 1) := by decide +kernel
theorem d_JL_numberOfTrailingZeros_0 : decode prog_6_method_49_code 0 = .ok (.lload_n 0, 1) := by decide +kernel
theorem d_JL_numberOfTrailingZeros_1 : decode prog_6_method_49_code 1 = .ok (.l2i, 1) := by decide +kernel
theorem d_JL_numberOfTrailingZeros_2 : decode prog_6_method_49_code 2 = .ok (.istore_n 2, 1) := by decide +kernel
theorem d_JL_numberOfTrailingZeros_3 : decode prog_6_method_49_code 3 = .ok (.iload_n 2, 1) := by decide +kernel
theorem d_JL_numberOfTrailingZeros_4 : decode prog_6_method_49_code 4 = .ok (.ifCond .ne 17, 3) := by decide +kernel
theorem d_JL_numberOfTrailingZeros_7 : decode prog_6_method_49_code 7 = .ok (.bipush 32, 2) := by decide +kernel
theorem d_JL_numberOfTrailingZeros_9 : decode prog_6_method_49_code 9 = .ok (.lload_n 0, 1) := by decide +kernel
theorem d_JL_numberOfTrailingZeros_10 : decode prog_6_method_49_code 10 = .ok (.bipush 32, 2) := by decide +kernel
theorem d_JL_numberOfTrailingZeros_12 : decode prog_6_method_49_code 12 = .ok (.lushr, 1) := by decide +kernel
theorem d_JL_numberOfTrailingZeros_13 : decode prog_6_method_49_code 13 = .ok (.l2i, 1) := by decide +kernel
theorem d_JL_numberOfTrailingZeros_14 : decode prog_6_method_49_code 14 = .ok (.invokestatic 311, 3) := by decide +kernel
theorem d_JL_numberOfTrailingZeros_17 : decode prog_6_method_49_code 17 = .ok (.iadd, 1) := by decide +kernel
theorem d_JL_numberOfTrailingZeros_18 : decode prog_6_method_49_code 18 = .ok (.goto 7, 3) := by decide +kernel
theorem d_JL_numberOfTrailingZeros_21 : decode prog_6_method_49_code 21 = .ok (.iload_n 2, 1) := by decide +kernel
theorem d_JL_numberOfTrailingZeros_22 : decode prog_6_method_49_code 22 = .ok (.invokestatic 311, 3) := by decide +kernel
theorem d_JL_numberOfTrailingZeros_25 : decode prog_6_method_49_code 25 = .ok (.ireturn, 1) := by decide +kernel
theorem d_JL_bitCount_0 : decode prog_6_method_50_code 0 = .ok (.lload_n 0, 1) := by decide +kernel
theorem d_JL_bitCount_1 : decode prog_6_method_50_code 1 = .ok (.lload_n 0, 1) := by decide +kernel
theorem d_JL_bitCount_2 : decode prog_6_method_50_code 2 = .ok (.iconst 1, 1) := by decide +kernel
theorem d_JL_bitCount_3 : decode prog_6_method_50_code 3 = .ok (.lushr, 1) := by decide +kernel
theorem d_JL_bitCount_4 : decode prog_6_method_50_code 4 = .ok (.ldc2_w 314, 3) := by decide +kernel
theorem d_JL_bitCount_7 : decode prog_6_method_50_code 7 = .ok (.land, 1) := by decide +kernel
theorem d_JL_bitCount_8 : decode prog_6_method_50_code 8 = .ok (.lsub, 1) := by decide +kernel
theorem d_JL_bitCount_9 : decode prog_6_method_50_code 9 = .ok (.lstore_n 0, 1) := by decide +kernel
theorem d_JL_bitCount_10 : decode prog_6_method_50_code 10 = .ok (.lload_n 0, 1) := by decide +kernel
theorem d_JL_bitCount_11 : decode prog_6_method_50_code 11 = .ok (.ldc2_w 316, 3) := by decide +kernel
theorem d_JL_bitCount_14 : decode prog_6_method_50_code 14 = .ok (.land, 1) := by decide +kernel
theorem d_JL_bitCount_15 : decode prog_6_method_50_code 15 = .ok (.lload_n 0, 1) := by decide +kernel
theorem d_JL_bitCount_16 : decode prog_6_method_50_code 16 = .ok (.iconst 2, 1) := by decide +kernel
theorem d_JL_bitCount_17 : decode prog_6_method_50_code 17 = .ok (.lushr, 1) := by decide +kernel
theorem d_JL_bitCount_18 : decode prog_6_method_50_code 18 = .ok (.ldc2_w 316, 3) := by decide +kernel
theorem d_JL_bitCount_21 : decode prog_6_method_50_code 21 = .ok (.land, 1) := by decide +kernel
theorem d_JL_bitCount_22 : decode prog_6_method_50_code 22 = .ok (.ladd, 1) := by decide +kernel
theorem d_JL_bitCount_23 : decode prog_6_method_50_code 23 = .ok (.lstore_n 0, 1) := by decide +kernel
theorem d_JL_bitCount_24 : decode prog_6_method_50_code 24 = .ok (.lload_n 0, 1) := by decide +kernel
theorem d_JL_bitCount_25 : decode prog_6_method_50_code 25 = .ok (.lload_n 0, 1) := by decide +kernel
theorem d_JL_bitCount_26 : decode prog_6_method_50_code 26 = .ok (.iconst 4, 1) := by decide +kernel
theorem d_JL_bitCount_27 : decode prog_6_method_50_code 27 = .ok (.lushr, 1) := by decide +kernel
theorem d_JL_bitCount_28 : decode prog_6_method_50_code 28 = .ok (.ladd, 1) := by decide +kernel
theorem d_JL_bitCount_29 : decode prog_6_method_50_code 29 = .ok (.ldc2_w 318, 3) := by decide +kernel
theorem d_JL_bitCount_32 : decode prog_6_method_50_code 32 = .ok (.land, 1) := by decide +kernel
theorem d_JL_bitCount_33 : decode prog_6_method_50_code 33 = .ok (.lstore_n 0, 1) := by decide +kernel
theorem d_JL_bitCount_34 : decode prog_6_method_50_code 34 = .ok (.lload_n 0, 1) := by decide +kernel
theorem d_JL_bitCount_35 : decode prog_6_method_50_code 35 = .ok (.lload_n 0, 1) := by decide +kernel
theorem d_JL_bitCount_36 : decode prog_6_method_50_code 36 = .ok (.bipush 8, 2) := by decide +kernel
theorem d_JL_bitCount_38 : decode prog_6_method_50_code 38 = .ok (.lushr, 1) := by decide +kernel
theorem d_JL_bitCount_39 : decode prog_6_method_50_code 39 = .ok (.ladd, 1) := by decide +kernel
theorem d_JL_bitCount_40 : decode prog_6_method_50_code 40 = .ok (.lstore_n 0, 1) := by decide +kernel
theorem d_JL_bitCount_41 : decode prog_6_method_50_code 41 = .ok (.lload_n 0, 1) := by decide +kernel
theorem d_JL_bitCount_42 : decode prog_6_method_50_code 42 = .ok (.lload_n 0, 1) := by decide +kernel
theorem d_JL_bitCount_43 : decode prog_6_method_50_code 43 = .ok (.bipush 16, 2) := by decide +kernel
theorem d_JL_bitCount_45 : decode prog_6_method_50_code 45 = .ok (.lushr, 1) := by decide +kernel
theorem d_JL_bitCount_46 : decode prog_6_method_50_code 46 = .ok (.ladd, 1) := by decide +kernel
theorem d_JL_bitCount_47 : decode prog_6_method_50_code 47 = .ok (.lstore_n 0, 1) := by decide +kernel
theorem d_JL_bitCount_48 : decode prog_6_method_50_code 48 = .ok (.lload_n 0, 1) := by decide +kernel
theorem d_JL_bitCount_49 : decode prog_6_method_50_code 49 = .ok (.lload_n 0, 1) := by decide +kernel
theorem d_JL_bitCount_50 : decode prog_6_method_50_code 50 = .ok (.bipush 32, 2) := by decide +kernel
theorem d_JL_bitCount_52 : decode prog_6_method_50_code 52 = .ok (.lushr, 1) := by decide +kernel
theorem d_JL_bitCount_53 : decode prog_6_method_50_code 53 = .ok (.ladd, 1) := by decide +kernel
theorem d_JL_bitCount_54 : decode prog_6_method_50_code 54 = .ok (.lstore_n 0, 1) := by decide +kernel
theorem d_JL_bitCount_55 : decode prog_6_method_50_code 55 = .ok (.lload_n 0, 1) := by decide +kernel
theorem d_JL_bitCount_56 : decode prog_6_method_50_code 56 = .ok (.l2i, 1) := by decide +kernel
theorem d_JL_bitCount_57 : decode prog_6_method_50_code 57 = .ok (.bipush 127, 2) := by decide +kernel
theorem d_JL_bitCount_59 : decode prog_6_method_50_code 59 = .ok (.iand, 1) := by decide +kernel
theorem d_JL_bitCount_60 : decode prog_6_method_50_code 60 = .ok (.ireturn, 1) := by decide +kernel
theorem d_JL_compare_0 : decode prog_6_method_42_code 0 = .ok (.lload_n 0, 1) := by decide +kernel
theorem d_JL_compare_1 : decode prog_6_method_42_code 1 = .ok (.lload_n 2, 1) := by decide +kernel
theorem d_JL_compare_2 : decode prog_6_method_42_code 2 = .ok (.lcmp, 1) := by decide +kernel
theorem d_JL_compare_3 : decode prog_6_method_42_code 3 = .ok (.ifCond .ge 7, 3) := by decide +kernel
theorem d_JL_compare_6 : decode prog_6_method_42_code 6 = .ok (.iconst (-1), 1) := by decide +kernel
theorem d_JL_compare_7 : decode prog_6_method_42_code 7 = .ok (.goto 14, 3) := by decide +kernel
theorem d_JL_compare_10 : decode prog_6_method_42_code 10 = .ok (.lload_n 0, 1) := by decide +kernel
theorem d_JL_compare_11 : decode prog_6_method_42_code 11 = .ok (.lload_n 2, 1) := by decide +kernel
theorem d_JL_compare_12 : decode prog_6_method_42_code 12 = .ok (.lcmp, 1) := by decide +kernel
theorem d_JL_compare_13 : decode prog_6_method_42_code 13 = .ok (.ifCond .ne 7, 3) := by decide +kernel
theorem d_JL_compare_16 : decode prog_6_method_42_code 16 = .ok (.iconst 0, 1) := by decide +kernel
theorem d_JL_compare_17 : decode prog_6_method_42_code 17 = .ok (.goto 4, 3) := by decide +kernel
theorem d_JL_compare_20 : decode prog_6_method_42_code 20 = .ok (.iconst 1, 1) := by decide +kernel
theorem d_JL_compare_21 : decode prog_6_method_42_code 21 = .ok (.ireturn, 1) := by decide +kernel
theorem d_JL_compareUnsigned_0 : decode prog_6_method_43_code 0 = .ok (.lload_n 0, 1) := by decide +kernel
theorem d_JL_compareUnsigned_1 : decode prog_6_method_43_code 1 = .ok (.ldc2_w 168, 3) := by decide +kernel
theorem d_JL_compareUnsigned_4 : decode prog_6_method_43_code 4 = .ok (.ladd, 1) := by decide +kernel
theorem d_JL_compareUnsigned_5 : decode prog_6_method_43_code 5 = .ok (.lload_n 2, 1) := by decide +kernel
theorem d_JL_compareUnsigned_6 : decode prog_6_method_43_code 6 = .ok (.ldc2_w 168, 3) := by decide +kernel
theorem d_JL_compareUnsigned_9 : decode prog_6_method_43_code 9 = .ok (.ladd, 1) := by decide +kernel
theorem d_JL_compareUnsigned_10 : decode prog_6_method_43_code 10 = .ok (.invokestatic 302, 3) := by decide +kernel
theorem d_JL_compareUnsigned_13 : decode prog_6_method_43_code 13 = .ok (.ireturn, 1) := by decide +kernel
