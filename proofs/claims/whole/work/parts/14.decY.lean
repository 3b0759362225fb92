theorem d_Y_out_0 : decode prog_4_method_2_code 0 = .ok (.iload_n 0, 1) := by decide +kernel
theorem d_Y_out_1 : decode prog_4_method_2_code 1 = .ok (.ifCond .lt 9, 3) := by decide +kernel
theorem d_Y_out_4 : decode prog_4_method_2_code 4 = .ok (.iload_n 0, 1) := by decide +kernel
theorem d_Y_out_5 : decode prog_4_method_2_code 5 = .ok (.bipush 7, 2) := by decide +kernel
theorem d_Y_out_7 : decode prog_4_method_2_code 7 = .ok (.if_icmp .le 7, 3) := by decide +kernel
theorem d_Y_out_10 : decode prog_4_method_2_code 10 = .ok (.iconst 1, 1) := by decide +kernel
theorem d_Y_out_11 : decode prog_4_method_2_code 11 = .ok (.goto 4, 3) := by decide +kernel
theorem d_Y_out_14 : decode prog_4_method_2_code 14 = .ok (.iconst 0, 1) := by decide +kernel
theorem d_Y_out_15 : decode prog_4_method_2_code 15 = .ok (.ireturn, 1) := by decide +kernel
theorem d_Y_bits_0 : decode prog_4_method_3_code 0 = .ok (.iconst 0, 1) := by decide +kernel
theorem d_Y_bits_1 : decode prog_4_method_3_code 1 = .ok (.istore_n 2, 1) := by decide +kernel
theorem d_Y_bits_2 : decode prog_4_method_3_code 2 = .ok (.lload_n 0, 1) := by decide +kernel
theorem d_Y_bits_3 : decode prog_4_method_3_code 3 = .ok (.lstore_n 3, 1) := by decide +kernel
theorem d_Y_bits_4 : decode prog_4_method_3_code 4 = .ok (.lload_n 3, 1) := by decide +kernel
theorem d_Y_bits_5 : decode prog_4_method_3_code 5 = .ok (.lconst 0, 1) := by decide +kernel
theorem d_Y_bits_6 : decode prog_4_method_3_code 6 = .ok (.lcmp, 1) := by decide +kernel
theorem d_Y_bits_7 : decode prog_4_method_3_code 7 = .ok (.ifCond .le 13, 3) := by decide +kernel
theorem d_Y_bits_10 : decode prog_4_method_3_code 10 = .ok (.iinc 2 1, 3) := by decide +kernel
theorem d_Y_bits_13 : decode prog_4_method_3_code 13 = .ok (.lload_n 3, 1) := by decide +kernel
theorem d_Y_bits_14 : decode prog_4_method_3_code 14 = .ok (.iconst 1, 1) := by decide +kernel
theorem d_Y_bits_15 : decode prog_4_method_3_code 15 = .ok (.lshr, 1) := by decide +kernel
theorem d_Y_bits_16 : decode prog_4_method_3_code 16 = .ok (.lstore_n 3, 1) := by decide +kernel
theorem d_Y_bits_17 : decode prog_4_method_3_code 17 = .ok (.goto (-13), 3) := by decide +kernel
theorem d_Y_bits_20 : decode prog_4_method_3_code 20 = .ok (.iload_n 2, 1) := by decide +kernel
theorem d_Y_bits_21 : decode prog_4_method_3_code 21 = .ok (.ireturn, 1) := by decide +kernel
theorem d_Y_inRange_0 : decode prog_4_method_5_code 0 = .ok (.lload_n 0, 1) := by decide +kernel
theorem d_Y_inRange_1 : decode prog_4_method_5_code 1 = .ok (.invokestatic 29, 3) := by decide +kernel
theorem d_Y_inRange_4 : decode prog_4_method_5_code 4 = .ok (.iconst 1, 1) := by decide +kernel
theorem d_Y_inRange_5 : decode prog_4_method_5_code 5 = .ok (.isub, 1) := by decide +kernel
theorem d_Y_inRange_6 : decode prog_4_method_5_code 6 = .ok (.iload_n 2, 1) := by decide +kernel
theorem d_Y_inRange_7 : decode prog_4_method_5_code 7 = .ok (.iadd, 1) := by decide +kernel
theorem d_Y_inRange_8 : decode prog_4_method_5_code 8 = .ok (.istore_n 3, 1) := by decide +kernel
theorem d_Y_inRange_9 : decode prog_4_method_5_code 9 = .ok (.iload_n 3, 1) := by decide +kernel
theorem d_Y_inRange_10 : decode prog_4_method_5_code 10 = .ok (.bipush (-100), 2) := by decide +kernel
theorem d_Y_inRange_12 : decode prog_4_method_5_code 12 = .ok (.if_icmp .lt 13, 3) := by decide +kernel
theorem d_Y_inRange_15 : decode prog_4_method_5_code 15 = .ok (.iload_n 3, 1) := by decide +kernel
theorem d_Y_inRange_16 : decode prog_4_method_5_code 16 = .ok (.bipush 100, 2) := by decide +kernel
theorem d_Y_inRange_18 : decode prog_4_method_5_code 18 = .ok (.if_icmp .ge 7, 3) := by decide +kernel
theorem d_Y_inRange_21 : decode prog_4_method_5_code 21 = .ok (.iconst 1, 1) := by decide +kernel
theorem d_Y_inRange_22 : decode prog_4_method_5_code 22 = .ok (.goto 4, 3) := by decide +kernel
theorem d_Y_inRange_25 : decode prog_4_method_5_code 25 = .ok (.iconst 0, 1) := by decide +kernel
theorem d_Y_inRange_26 : decode prog_4_method_5_code 26 = .ok (.ireturn, 1) := by decide +kernel
theorem d_Y_size_0 : decode prog_4_method_10_code 0 = .ok (.iload_n 0, 1) := by decide +kernel
theorem d_Y_size_1 : decode prog_4_method_10_code 1 = .ok (.ifCond .eq 8, 3) := by decide +kernel
theorem d_Y_size_4 : decode prog_4_method_10_code 4 = .ok (.bipush 24, 2) := by decide +kernel
theorem d_Y_size_6 : decode prog_4_method_10_code 6 = .ok (.goto 5, 3) := by decide +kernel
theorem d_Y_size_9 : decode prog_4_method_10_code 9 = .ok (.bipush 53, 2) := by decide +kernel
theorem d_Y_size_11 : decode prog_4_method_10_code 11 = .ok (.ireturn, 1) := by decide +kernel
theorem d_Y_narrow_0 : decode prog_4_method_4_code 0 = .ok (.aload_n 0, 1) := by decide +kernel
theorem d_Y_narrow_1 : decode prog_4_method_4_code 1 = .ok (.getfield 7, 3) := by decide +kernel
theorem d_Y_narrow_4 : decode prog_4_method_4_code 4 = .ok (.iload_n 1, 1) := by decide +kernel
theorem d_Y_narrow_5 : decode prog_4_method_4_code 5 = .ok (.laload, 1) := by decide +kernel
theorem d_Y_narrow_6 : decode prog_4_method_4_code 6 = .ok (.ldc2_w 27, 3) := by decide +kernel
theorem d_Y_narrow_9 : decode prog_4_method_4_code 9 = .ok (.lcmp, 1) := by decide +kernel
theorem d_Y_narrow_10 : decode prog_4_method_4_code 10 = .ok (.ifCond .ge 7, 3) := by decide +kernel
theorem d_Y_narrow_13 : decode prog_4_method_4_code 13 = .ok (.iconst 1, 1) := by decide +kernel
theorem d_Y_narrow_14 : decode prog_4_method_4_code 14 = .ok (.goto 4, 3) := by decide +kernel
theorem d_Y_narrow_17 : decode prog_4_method_4_code 17 = .ok (.iconst 0, 1) := by decide +kernel
theorem d_Y_narrow_18 : decode prog_4_method_4_code 18 = .ok (.ireturn, 1) := by decide +kernel
theorem d_Y_range_0 : decode prog_4_method_6_code 0 = .ok (.aload_n 0, 1) := by decide +kernel
theorem d_Y_range_1 : decode prog_4_method_6_code 1 = .ok (.dup, 1) := by decide +kernel
theorem d_Y_range_2 : decode prog_4_method_6_code 2 = .ok (.getfield 33, 3) := by decide +kernel
theorem d_Y_range_5 : decode prog_4_method_6_code 5 = .ok (.iconst 1, 1) := by decide +kernel
theorem d_Y_range_6 : decode prog_4_method_6_code 6 = .ok (.iadd, 1) := by decide +kernel
theorem d_Y_range_7 : decode prog_4_method_6_code 7 = .ok (.putfield 33, 3) := by decide +kernel
theorem d_Y_range_10 : decode prog_4_method_6_code 10 = .ok (.bipush (-2), 2) := by decide +kernel
theorem d_Y_range_12 : decode prog_4_method_6_code 12 = .ok (.ireturn, 1) := by decide +kernel
theorem d_Y_store_0 : decode prog_4_method_7_code 0 = .ok (.lload_n 3, 1) := by decide +kernel
theorem d_Y_store_1 : decode prog_4_method_7_code 1 = .ok (.lstore 6, 2) := by decide +kernel
theorem d_Y_store_3 : decode prog_4_method_7_code 3 = .ok (.iload 5, 2) := by decide +kernel
theorem d_Y_store_5 : decode prog_4_method_7_code 5 = .ok (.istore 8, 2) := by decide +kernel
theorem d_Y_store_7 : decode prog_4_method_7_code 7 = .ok (.lload 6, 2) := by decide +kernel
theorem d_Y_store_9 : decode prog_4_method_7_code 9 = .ok (.lconst 0, 1) := by decide +kernel
theorem d_Y_store_10 : decode prog_4_method_7_code 10 = .ok (.lcmp, 1) := by decide +kernel
theorem d_Y_store_11 : decode prog_4_method_7_code 11 = .ok (.ifCond .le 28, 3) := by decide +kernel
theorem d_Y_store_14 : decode prog_4_method_7_code 14 = .ok (.lload 6, 2) := by decide +kernel
theorem d_Y_store_16 : decode prog_4_method_7_code 16 = .ok (.ldc2_w 37, 3) := by decide +kernel
theorem d_Y_store_19 : decode prog_4_method_7_code 19 = .ok (.lrem, 1) := by decide +kernel
theorem d_Y_store_20 : decode prog_4_method_7_code 20 = .ok (.lconst 0, 1) := by decide +kernel
theorem d_Y_store_21 : decode prog_4_method_7_code 21 = .ok (.lcmp, 1) := by decide +kernel
theorem d_Y_store_22 : decode prog_4_method_7_code 22 = .ok (.ifCond .ne 17, 3) := by decide +kernel
theorem d_Y_store_25 : decode prog_4_method_7_code 25 = .ok (.lload 6, 2) := by decide +kernel
theorem d_Y_store_27 : decode prog_4_method_7_code 27 = .ok (.ldc2_w 37, 3) := by decide +kernel
theorem d_Y_store_30 : decode prog_4_method_7_code 30 = .ok (.ldiv, 1) := by decide +kernel
theorem d_Y_store_31 : decode prog_4_method_7_code 31 = .ok (.lstore 6, 2) := by decide +kernel
theorem d_Y_store_33 : decode prog_4_method_7_code 33 = .ok (.iinc 8 1, 3) := by decide +kernel
theorem d_Y_store_36 : decode prog_4_method_7_code 36 = .ok (.goto (-29), 3) := by decide +kernel
theorem d_Y_store_39 : decode prog_4_method_7_code 39 = .ok (.aload_n 0, 1) := by decide +kernel
theorem d_Y_store_40 : decode prog_4_method_7_code 40 = .ok (.getfield 7, 3) := by decide +kernel
theorem d_Y_store_43 : decode prog_4_method_7_code 43 = .ok (.iload_n 1, 1) := by decide +kernel
theorem d_Y_store_44 : decode prog_4_method_7_code 44 = .ok (.lload 6, 2) := by decide +kernel
theorem d_Y_store_46 : decode prog_4_method_7_code 46 = .ok (.lastore, 1) := by decide +kernel
theorem d_Y_store_47 : decode prog_4_method_7_code 47 = .ok (.aload_n 0, 1) := by decide +kernel
theorem d_Y_store_48 : decode prog_4_method_7_code 48 = .ok (.getfield 13, 3) := by decide +kernel
theorem d_Y_store_51 : decode prog_4_method_7_code 51 = .ok (.iload_n 1, 1) := by decide +kernel
theorem d_Y_store_52 : decode prog_4_method_7_code 52 = .ok (.lload 6, 2) := by decide +kernel
theorem d_Y_store_54 : decode prog_4_method_7_code 54 = .ok (.lconst 0, 1) := by decide +kernel
theorem d_Y_store_55 : decode prog_4_method_7_code 55 = .ok (.lcmp, 1) := by decide +kernel
theorem d_Y_store_56 : decode prog_4_method_7_code 56 = .ok (.ifCond .ne 7, 3) := by decide +kernel
theorem d_Y_store_59 : decode prog_4_method_7_code 59 = .ok (.iconst 0, 1) := by decide +kernel
theorem d_Y_store_60 : decode prog_4_method_7_code 60 = .ok (.goto 5, 3) := by decide +kernel
theorem d_Y_store_63 : decode prog_4_method_7_code 63 = .ok (.iload 8, 2) := by decide +kernel
theorem d_Y_store_65 : decode prog_4_method_7_code 65 = .ok (.iastore, 1) := by decide +kernel
theorem d_Y_store_66 : decode prog_4_method_7_code 66 = .ok (.aload_n 0, 1) := by decide +kernel
theorem d_Y_store_67 : decode prog_4_method_7_code 67 = .ok (.getfield 17, 3) := by decide +kernel
theorem d_Y_store_70 : decode prog_4_method_7_code 70 = .ok (.iload_n 1, 1) := by decide +kernel
theorem d_Y_store_71 : decode prog_4_method_7_code 71 = .ok (.iload_n 2, 1) := by decide +kernel
theorem d_Y_store_72 : decode prog_4_method_7_code 72 = .ok (.ifCond .eq 14, 3) := by decide +kernel
theorem d_Y_store_75 : decode prog_4_method_7_code 75 = .ok (.lload 6, 2) := by decide +kernel
theorem d_Y_store_77 : decode prog_4_method_7_code 77 = .ok (.lconst 0, 1) := by decide +kernel
theorem d_Y_store_78 : decode prog_4_method_7_code 78 = .ok (.lcmp, 1) := by decide +kernel
theorem d_Y_store_79 : decode prog_4_method_7_code 79 = .ok (.ifCond .le 7, 3) := by decide +kernel
theorem d_Y_store_82 : decode prog_4_method_7_code 82 = .ok (.iconst 1, 1) := by decide +kernel
theorem d_Y_store_83 : decode prog_4_method_7_code 83 = .ok (.goto 4, 3) := by decide +kernel
theorem d_Y_store_86 : decode prog_4_method_7_code 86 = .ok (.iconst 0, 1) := by decide +kernel
theorem d_Y_store_87 : decode prog_4_method_7_code 87 = .ok (.bastore, 1) := by decide +kernel
theorem d_Y_store_88 : decode prog_4_method_7_code 88 = .ok (.return_, 1) := by decide +kernel
theorem d_Y_finish_0 : decode prog_4_method_8_code 0 = .ok (.lload_n 3, 1) := by decide +kernel
theorem d_Y_finish_1 : decode prog_4_method_8_code 1 = .ok (.lconst 0, 1) := by decide +kernel
theorem d_Y_finish_2 : decode prog_4_method_8_code 2 = .ok (.lcmp, 1) := by decide +kernel
theorem d_Y_finish_3 : decode prog_4_method_8_code 3 = .ok (.ifCond .eq 17, 3) := by decide +kernel
theorem d_Y_finish_6 : decode prog_4_method_8_code 6 = .ok (.lload_n 3, 1) := by decide +kernel
theorem d_Y_finish_7 : decode prog_4_method_8_code 7 = .ok (.iload 5, 2) := by decide +kernel
theorem d_Y_finish_9 : decode prog_4_method_8_code 9 = .ok (.invokestatic 39, 3) := by decide +kernel
theorem d_Y_finish_12 : decode prog_4_method_8_code 12 = .ok (.ifCond .ne 8, 3) := by decide +kernel
theorem d_Y_finish_15 : decode prog_4_method_8_code 15 = .ok (.aload_n 0, 1) := by decide +kernel
theorem d_Y_finish_16 : decode prog_4_method_8_code 16 = .ok (.invokevirtual 43, 3) := by decide +kernel
theorem d_Y_finish_19 : decode prog_4_method_8_code 19 = .ok (.ireturn, 1) := by decide +kernel
theorem d_Y_finish_20 : decode prog_4_method_8_code 20 = .ok (.aload_n 0, 1) := by decide +kernel
theorem d_Y_finish_21 : decode prog_4_method_8_code 21 = .ok (.iload_n 1, 1) := by decide +kernel
theorem d_Y_finish_22 : decode prog_4_method_8_code 22 = .ok (.iload_n 2, 1) := by decide +kernel
theorem d_Y_finish_23 : decode prog_4_method_8_code 23 = .ok (.lload_n 3, 1) := by decide +kernel
theorem d_Y_finish_24 : decode prog_4_method_8_code 24 = .ok (.iload 5, 2) := by decide +kernel
theorem d_Y_finish_26 : decode prog_4_method_8_code 26 = .ok (.invokevirtual 47, 3) := by decide +kernel
theorem d_Y_finish_29 : decode prog_4_method_8_code 29 = .ok (.aload_n 0, 1) := by decide +kernel
theorem d_Y_finish_30 : decode prog_4_method_8_code 30 = .ok (.iload_n 2, 1) := by decide +kernel
theorem d_Y_finish_31 : decode prog_4_method_8_code 31 = .ok (.ifCond .eq 9, 3) := by decide +kernel
theorem d_Y_finish_34 : decode prog_4_method_8_code 34 = .ok (.iload 6, 2) := by decide +kernel
theorem d_Y_finish_36 : decode prog_4_method_8_code 36 = .ok (.ineg, 1) := by decide +kernel
theorem d_Y_finish_37 : decode prog_4_method_8_code 37 = .ok (.goto 5, 3) := by decide +kernel
theorem d_Y_finish_40 : decode prog_4_method_8_code 40 = .ok (.iload 6, 2) := by decide +kernel
theorem d_Y_finish_42 : decode prog_4_method_8_code 42 = .ok (.putfield 51, 3) := by decide +kernel
theorem d_Y_finish_45 : decode prog_4_method_8_code 45 = .ok (.iload 6, 2) := by decide +kernel
theorem d_Y_finish_47 : decode prog_4_method_8_code 47 = .ok (.ifCond .eq 13, 3) := by decide +kernel
theorem d_Y_finish_50 : decode prog_4_method_8_code 50 = .ok (.aload_n 0, 1) := by decide +kernel
theorem d_Y_finish_51 : decode prog_4_method_8_code 51 = .ok (.dup, 1) := by decide +kernel
theorem d_Y_finish_52 : decode prog_4_method_8_code 52 = .ok (.getfield 54, 3) := by decide +kernel
theorem d_Y_finish_55 : decode prog_4_method_8_code 55 = .ok (.iconst 1, 1) := by decide +kernel
theorem d_Y_finish_56 : decode prog_4_method_8_code 56 = .ok (.iadd, 1) := by decide +kernel
theorem d_Y_finish_57 : decode prog_4_method_8_code 57 = .ok (.putfield 54, 3) := by decide +kernel
theorem d_Y_finish_60 : decode prog_4_method_8_code 60 = .ok (.iconst 0, 1) := by decide +kernel
theorem d_Y_finish_61 : decode prog_4_method_8_code 61 = .ok (.ireturn, 1) := by decide +kernel
theorem d_Y_round_0 : decode prog_4_method_9_code 0 = .ok (.aload_n 0, 1) := by decide +kernel
theorem d_Y_round_1 : decode prog_4_method_9_code 1 = .ok (.getfield 57, 3) := by decide +kernel
theorem d_Y_round_4 : decode prog_4_method_9_code 4 = .ok (.invokestatic 29, 3) := by decide +kernel
theorem d_Y_round_7 : decode prog_4_method_9_code 7 = .ok (.iload_n 3, 1) := by decide +kernel
theorem d_Y_round_8 : decode prog_4_method_9_code 8 = .ok (.isub, 1) := by decide +kernel
theorem d_Y_round_9 : decode prog_4_method_9_code 9 = .ok (.istore 4, 2) := by decide +kernel
theorem d_Y_round_11 : decode prog_4_method_9_code 11 = .ok (.iload 4, 2) := by decide +kernel
theorem d_Y_round_13 : decode prog_4_method_9_code 13 = .ok (.ifCond .gt 19, 3) := by decide +kernel
theorem d_Y_round_16 : decode prog_4_method_9_code 16 = .ok (.aload_n 0, 1) := by decide +kernel
theorem d_Y_round_17 : decode prog_4_method_9_code 17 = .ok (.iload_n 1, 1) := by decide +kernel
theorem d_Y_round_18 : decode prog_4_method_9_code 18 = .ok (.iload_n 2, 1) := by decide +kernel
theorem d_Y_round_19 : decode prog_4_method_9_code 19 = .ok (.aload_n 0, 1) := by decide +kernel
theorem d_Y_round_20 : decode prog_4_method_9_code 20 = .ok (.getfield 57, 3) := by decide +kernel
theorem d_Y_round_23 : decode prog_4_method_9_code 23 = .ok (.aload_n 0, 1) := by decide +kernel
theorem d_Y_round_24 : decode prog_4_method_9_code 24 = .ok (.getfield 61, 3) := by decide +kernel
theorem d_Y_round_27 : decode prog_4_method_9_code 27 = .ok (.iconst 0, 1) := by decide +kernel
theorem d_Y_round_28 : decode prog_4_method_9_code 28 = .ok (.invokevirtual 64, 3) := by decide +kernel
theorem d_Y_round_31 : decode prog_4_method_9_code 31 = .ok (.ireturn, 1) := by decide +kernel
theorem d_Y_round_32 : decode prog_4_method_9_code 32 = .ok (.lconst 1, 1) := by decide +kernel
theorem d_Y_round_33 : decode prog_4_method_9_code 33 = .ok (.iload 4, 2) := by decide +kernel
theorem d_Y_round_35 : decode prog_4_method_9_code 35 = .ok (.lshl, 1) := by decide +kernel
theorem d_Y_round_36 : decode prog_4_method_9_code 36 = .ok (.lstore 5, 2) := by decide +kernel
theorem d_Y_round_38 : decode prog_4_method_9_code 38 = .ok (.aload_n 0, 1) := by decide +kernel
theorem d_Y_round_39 : decode prog_4_method_9_code 39 = .ok (.getfield 57, 3) := by decide +kernel
theorem d_Y_round_42 : decode prog_4_method_9_code 42 = .ok (.lload 5, 2) := by decide +kernel
theorem d_Y_round_44 : decode prog_4_method_9_code 44 = .ok (.lconst 1, 1) := by decide +kernel
theorem d_Y_round_45 : decode prog_4_method_9_code 45 = .ok (.lsub, 1) := by decide +kernel
theorem d_Y_round_46 : decode prog_4_method_9_code 46 = .ok (.land, 1) := by decide +kernel
theorem d_Y_round_47 : decode prog_4_method_9_code 47 = .ok (.lstore 7, 2) := by decide +kernel
theorem d_Y_round_49 : decode prog_4_method_9_code 49 = .ok (.aload_n 0, 1) := by decide +kernel
theorem d_Y_round_50 : decode prog_4_method_9_code 50 = .ok (.getfield 57, 3) := by decide +kernel
theorem d_Y_round_53 : decode prog_4_method_9_code 53 = .ok (.iload 4, 2) := by decide +kernel
theorem d_Y_round_55 : decode prog_4_method_9_code 55 = .ok (.lshr, 1) := by decide +kernel
theorem d_Y_round_56 : decode prog_4_method_9_code 56 = .ok (.lstore 9, 2) := by decide +kernel
theorem d_Y_round_58 : decode prog_4_method_9_code 58 = .ok (.ldc2_w 37, 3) := by decide +kernel
theorem d_Y_round_61 : decode prog_4_method_9_code 61 = .ok (.lload 7, 2) := by decide +kernel
theorem d_Y_round_63 : decode prog_4_method_9_code 63 = .ok (.lmul, 1) := by decide +kernel
theorem d_Y_round_64 : decode prog_4_method_9_code 64 = .ok (.lload 5, 2) := by decide +kernel
theorem d_Y_round_66 : decode prog_4_method_9_code 66 = .ok (.lcmp, 1) := by decide +kernel
theorem d_Y_round_67 : decode prog_4_method_9_code 67 = .ok (.ifCond .gt 33, 3) := by decide +kernel
theorem d_Y_round_70 : decode prog_4_method_9_code 70 = .ok (.ldc2_w 37, 3) := by decide +kernel
theorem d_Y_round_73 : decode prog_4_method_9_code 73 = .ok (.lload 7, 2) := by decide +kernel
theorem d_Y_round_75 : decode prog_4_method_9_code 75 = .ok (.lmul, 1) := by decide +kernel
theorem d_Y_round_76 : decode prog_4_method_9_code 76 = .ok (.lload 5, 2) := by decide +kernel
theorem d_Y_round_78 : decode prog_4_method_9_code 78 = .ok (.lcmp, 1) := by decide +kernel
theorem d_Y_round_79 : decode prog_4_method_9_code 79 = .ok (.ifCond .ne 25, 3) := by decide +kernel
theorem d_Y_round_82 : decode prog_4_method_9_code 82 = .ok (.aload_n 0, 1) := by decide +kernel
theorem d_Y_round_83 : decode prog_4_method_9_code 83 = .ok (.getfield 68, 3) := by decide +kernel
theorem d_Y_round_86 : decode prog_4_method_9_code 86 = .ok (.ifCond .ne 14, 3) := by decide +kernel
theorem d_Y_round_89 : decode prog_4_method_9_code 89 = .ok (.lload 9, 2) := by decide +kernel
theorem d_Y_round_91 : decode prog_4_method_9_code 91 = .ok (.ldc2_w 37, 3) := by decide +kernel
theorem d_Y_round_94 : decode prog_4_method_9_code 94 = .ok (.lrem, 1) := by decide +kernel
theorem d_Y_round_95 : decode prog_4_method_9_code 95 = .ok (.lconst 1, 1) := by decide +kernel
theorem d_Y_round_96 : decode prog_4_method_9_code 96 = .ok (.lcmp, 1) := by decide +kernel
theorem d_Y_round_97 : decode prog_4_method_9_code 97 = .ok (.ifCond .ne 7, 3) := by decide +kernel
theorem d_Y_round_100 : decode prog_4_method_9_code 100 = .ok (.iconst 1, 1) := by decide +kernel
theorem d_Y_round_101 : decode prog_4_method_9_code 101 = .ok (.goto 4, 3) := by decide +kernel
theorem d_Y_round_104 : decode prog_4_method_9_code 104 = .ok (.iconst 0, 1) := by decide +kernel
theorem d_Y_round_105 : decode prog_4_method_9_code 105 = .ok (.istore 11, 2) := by decide +kernel
theorem d_Y_round_107 : decode prog_4_method_9_code 107 = .ok (.lload 7, 2) := by decide +kernel
theorem d_Y_round_109 : decode prog_4_method_9_code 109 = .ok (.lconst 0, 1) := by decide +kernel
theorem d_Y_round_110 : decode prog_4_method_9_code 110 = .ok (.lcmp, 1) := by decide +kernel
theorem d_Y_round_111 : decode prog_4_method_9_code 111 = .ok (.ifCond .ne 27, 3) := by decide +kernel
theorem d_Y_round_114 : decode prog_4_method_9_code 114 = .ok (.aload_n 0, 1) := by decide +kernel
theorem d_Y_round_115 : decode prog_4_method_9_code 115 = .ok (.getfield 68, 3) := by decide +kernel
theorem d_Y_round_118 : decode prog_4_method_9_code 118 = .ok (.ifCond .ne 20, 3) := by decide +kernel
theorem d_Y_round_121 : decode prog_4_method_9_code 121 = .ok (.aload_n 0, 1) := by decide +kernel
theorem d_Y_round_122 : decode prog_4_method_9_code 122 = .ok (.iload_n 1, 1) := by decide +kernel
theorem d_Y_round_123 : decode prog_4_method_9_code 123 = .ok (.iload_n 2, 1) := by decide +kernel
theorem d_Y_round_124 : decode prog_4_method_9_code 124 = .ok (.lload 9, 2) := by decide +kernel
theorem d_Y_round_126 : decode prog_4_method_9_code 126 = .ok (.aload_n 0, 1) := by decide +kernel
theorem d_Y_round_127 : decode prog_4_method_9_code 127 = .ok (.getfield 61, 3) := by decide +kernel
theorem d_Y_round_130 : decode prog_4_method_9_code 130 = .ok (.iload 4, 2) := by decide +kernel
theorem d_Y_round_132 : decode prog_4_method_9_code 132 = .ok (.iadd, 1) := by decide +kernel
theorem d_Y_round_133 : decode prog_4_method_9_code 133 = .ok (.iconst 0, 1) := by decide +kernel
theorem d_Y_round_134 : decode prog_4_method_9_code 134 = .ok (.invokevirtual 64, 3) := by decide +kernel
theorem d_Y_round_137 : decode prog_4_method_9_code 137 = .ok (.ireturn, 1) := by decide +kernel
theorem d_Y_round_138 : decode prog_4_method_9_code 138 = .ok (.aload_n 0, 1) := by decide +kernel
theorem d_Y_round_139 : decode prog_4_method_9_code 139 = .ok (.iload_n 1, 1) := by decide +kernel
theorem d_Y_round_140 : decode prog_4_method_9_code 140 = .ok (.iload_n 2, 1) := by decide +kernel
theorem d_Y_round_141 : decode prog_4_method_9_code 141 = .ok (.iload 11, 2) := by decide +kernel
theorem d_Y_round_143 : decode prog_4_method_9_code 143 = .ok (.ifCond .eq 10, 3) := by decide +kernel
theorem d_Y_round_146 : decode prog_4_method_9_code 146 = .ok (.lload 9, 2) := by decide +kernel
theorem d_Y_round_148 : decode prog_4_method_9_code 148 = .ok (.lconst 1, 1) := by decide +kernel
theorem d_Y_round_149 : decode prog_4_method_9_code 149 = .ok (.ladd, 1) := by decide +kernel
theorem d_Y_round_150 : decode prog_4_method_9_code 150 = .ok (.goto 5, 3) := by decide +kernel
theorem d_Y_round_153 : decode prog_4_method_9_code 153 = .ok (.lload 9, 2) := by decide +kernel
theorem d_Y_round_155 : decode prog_4_method_9_code 155 = .ok (.aload_n 0, 1) := by decide +kernel
theorem d_Y_round_156 : decode prog_4_method_9_code 156 = .ok (.getfield 61, 3) := by decide +kernel
theorem d_Y_round_159 : decode prog_4_method_9_code 159 = .ok (.iload 4, 2) := by decide +kernel
theorem d_Y_round_161 : decode prog_4_method_9_code 161 = .ok (.iadd, 1) := by decide +kernel
theorem d_Y_round_162 : decode prog_4_method_9_code 162 = .ok (.iload 11, 2) := by decide +kernel
theorem d_Y_round_164 : decode prog_4_method_9_code 164 = .ok (.ifCond .eq 7, 3) := by decide +kernel
theorem d_Y_round_167 : decode prog_4_method_9_code 167 = .ok (.iconst 1, 1) := by decide +kernel
theorem d_Y_round_168 : decode prog_4_method_9_code 168 = .ok (.goto 4, 3) := by decide +kernel
theorem d_Y_round_171 : decode prog_4_method_9_code 171 = .ok (.iconst (-1), 1) := by decide +kernel
theorem d_Y_round_172 : decode prog_4_method_9_code 172 = .ok (.invokevirtual 64, 3) := by decide +kernel
theorem d_Y_round_175 : decode prog_4_method_9_code 175 = .ok (.ireturn, 1) := by decide +kernel
theorem d_Y_clear_0 : decode prog_4_method_11_code 0 = .ok (.iconst 0, 1) := by decide +kernel
theorem d_Y_clear_1 : decode prog_4_method_11_code 1 = .ok (.istore_n 1, 1) := by decide +kernel
theorem d_Y_clear_2 : decode prog_4_method_11_code 2 = .ok (.iload_n 1, 1) := by decide +kernel
theorem d_Y_clear_3 : decode prog_4_method_11_code 3 = .ok (.bipush 30, 2) := by decide +kernel
theorem d_Y_clear_5 : decode prog_4_method_11_code 5 = .ok (.if_icmp .ge 13, 3) := by decide +kernel
theorem d_Y_clear_8 : decode prog_4_method_11_code 8 = .ok (.aload_n 0, 1) := by decide +kernel
theorem d_Y_clear_9 : decode prog_4_method_11_code 9 = .ok (.iload_n 1, 1) := by decide +kernel
theorem d_Y_clear_10 : decode prog_4_method_11_code 10 = .ok (.iconst 0, 1) := by decide +kernel
theorem d_Y_clear_11 : decode prog_4_method_11_code 11 = .ok (.iastore, 1) := by decide +kernel
theorem d_Y_clear_12 : decode prog_4_method_11_code 12 = .ok (.iinc 1 1, 3) := by decide +kernel
theorem d_Y_clear_15 : decode prog_4_method_11_code 15 = .ok (.goto (-13), 3) := by decide +kernel
theorem d_Y_clear_18 : decode prog_4_method_11_code 18 = .ok (.return_, 1) := by decide +kernel
theorem d_Y_addAt_0 : decode prog_4_method_12_code 0 = .ok (.lload_n 2, 1) := by decide +kernel
theorem d_Y_addAt_1 : decode prog_4_method_12_code 1 = .ok (.lstore 4, 2) := by decide +kernel
theorem d_Y_addAt_3 : decode prog_4_method_12_code 3 = .ok (.iload_n 1, 1) := by decide +kernel
theorem d_Y_addAt_4 : decode prog_4_method_12_code 4 = .ok (.istore 6, 2) := by decide +kernel
theorem d_Y_addAt_6 : decode prog_4_method_12_code 6 = .ok (.lload 4, 2) := by decide +kernel
theorem d_Y_addAt_8 : decode prog_4_method_12_code 8 = .ok (.lconst 0, 1) := by decide +kernel
theorem d_Y_addAt_9 : decode prog_4_method_12_code 9 = .ok (.lcmp, 1) := by decide +kernel
theorem d_Y_addAt_10 : decode prog_4_method_12_code 10 = .ok (.ifCond .le 37, 3) := by decide +kernel
theorem d_Y_addAt_13 : decode prog_4_method_12_code 13 = .ok (.lload 4, 2) := by decide +kernel
theorem d_Y_addAt_15 : decode prog_4_method_12_code 15 = .ok (.aload_n 0, 1) := by decide +kernel
theorem d_Y_addAt_16 : decode prog_4_method_12_code 16 = .ok (.iload 6, 2) := by decide +kernel
theorem d_Y_addAt_18 : decode prog_4_method_12_code 18 = .ok (.iaload, 1) := by decide +kernel
theorem d_Y_addAt_19 : decode prog_4_method_12_code 19 = .ok (.i2l, 1) := by decide +kernel
theorem d_Y_addAt_20 : decode prog_4_method_12_code 20 = .ok (.ladd, 1) := by decide +kernel
theorem d_Y_addAt_21 : decode prog_4_method_12_code 21 = .ok (.lstore 4, 2) := by decide +kernel
theorem d_Y_addAt_23 : decode prog_4_method_12_code 23 = .ok (.aload_n 0, 1) := by decide +kernel
theorem d_Y_addAt_24 : decode prog_4_method_12_code 24 = .ok (.iload 6, 2) := by decide +kernel
theorem d_Y_addAt_26 : decode prog_4_method_12_code 26 = .ok (.lload 4, 2) := by decide +kernel
theorem d_Y_addAt_28 : decode prog_4_method_12_code 28 = .ok (.ldc2_w 72, 3) := by decide +kernel
theorem d_Y_addAt_31 : decode prog_4_method_12_code 31 = .ok (.land, 1) := by decide +kernel
theorem d_Y_addAt_32 : decode prog_4_method_12_code 32 = .ok (.l2i, 1) := by decide +kernel
theorem d_Y_addAt_33 : decode prog_4_method_12_code 33 = .ok (.iastore, 1) := by decide +kernel
theorem d_Y_addAt_34 : decode prog_4_method_12_code 34 = .ok (.lload 4, 2) := by decide +kernel
theorem d_Y_addAt_36 : decode prog_4_method_12_code 36 = .ok (.bipush 28, 2) := by decide +kernel
theorem d_Y_addAt_38 : decode prog_4_method_12_code 38 = .ok (.lshr, 1) := by decide +kernel
theorem d_Y_addAt_39 : decode prog_4_method_12_code 39 = .ok (.lstore 4, 2) := by decide +kernel
theorem d_Y_addAt_41 : decode prog_4_method_12_code 41 = .ok (.iinc 6 1, 3) := by decide +kernel
theorem d_Y_addAt_44 : decode prog_4_method_12_code 44 = .ok (.goto (-38), 3) := by decide +kernel
theorem d_Y_addAt_47 : decode prog_4_method_12_code 47 = .ok (.return_, 1) := by decide +kernel
theorem d_Y_addShifted_0 : decode prog_4_method_13_code 0 = .ok (.iload_n 3, 1) := by decide +kernel
theorem d_Y_addShifted_1 : decode prog_4_method_13_code 1 = .ok (.bipush 28, 2) := by decide +kernel
theorem d_Y_addShifted_3 : decode prog_4_method_13_code 3 = .ok (.idiv, 1) := by decide +kernel
theorem d_Y_addShifted_4 : decode prog_4_method_13_code 4 = .ok (.istore 4, 2) := by decide +kernel
theorem d_Y_addShifted_6 : decode prog_4_method_13_code 6 = .ok (.iload_n 3, 1) := by decide +kernel
theorem d_Y_addShifted_7 : decode prog_4_method_13_code 7 = .ok (.bipush 28, 2) := by decide +kernel
theorem d_Y_addShifted_9 : decode prog_4_method_13_code 9 = .ok (.irem, 1) := by decide +kernel
theorem d_Y_addShifted_10 : decode prog_4_method_13_code 10 = .ok (.istore 5, 2) := by decide +kernel
theorem d_Y_addShifted_12 : decode prog_4_method_13_code 12 = .ok (.aload_n 0, 1) := by decide +kernel
theorem d_Y_addShifted_13 : decode prog_4_method_13_code 13 = .ok (.iload 4, 2) := by decide +kernel
theorem d_Y_addShifted_15 : decode prog_4_method_13_code 15 = .ok (.lload_n 1, 1) := by decide +kernel
theorem d_Y_addShifted_16 : decode prog_4_method_13_code 16 = .ok (.ldc2_w 72, 3) := by decide +kernel
theorem d_Y_addShifted_19 : decode prog_4_method_13_code 19 = .ok (.land, 1) := by decide +kernel
theorem d_Y_addShifted_20 : decode prog_4_method_13_code 20 = .ok (.iload 5, 2) := by decide +kernel
theorem d_Y_addShifted_22 : decode prog_4_method_13_code 22 = .ok (.lshl, 1) := by decide +kernel
theorem d_Y_addShifted_23 : decode prog_4_method_13_code 23 = .ok (.invokestatic 74, 3) := by decide +kernel
theorem d_Y_addShifted_26 : decode prog_4_method_13_code 26 = .ok (.aload_n 0, 1) := by decide +kernel
theorem d_Y_addShifted_27 : decode prog_4_method_13_code 27 = .ok (.iload 4, 2) := by decide +kernel
theorem d_Y_addShifted_29 : decode prog_4_method_13_code 29 = .ok (.iconst 1, 1) := by decide +kernel
theorem d_Y_addShifted_30 : decode prog_4_method_13_code 30 = .ok (.iadd, 1) := by decide +kernel
theorem d_Y_addShifted_31 : decode prog_4_method_13_code 31 = .ok (.lload_n 1, 1) := by decide +kernel
theorem d_Y_addShifted_32 : decode prog_4_method_13_code 32 = .ok (.bipush 28, 2) := by decide +kernel
theorem d_Y_addShifted_34 : decode prog_4_method_13_code 34 = .ok (.lshr, 1) := by decide +kernel
theorem d_Y_addShifted_35 : decode prog_4_method_13_code 35 = .ok (.iload 5, 2) := by decide +kernel
theorem d_Y_addShifted_37 : decode prog_4_method_13_code 37 = .ok (.lshl, 1) := by decide +kernel
theorem d_Y_addShifted_38 : decode prog_4_method_13_code 38 = .ok (.invokestatic 74, 3) := by decide +kernel
theorem d_Y_addShifted_41 : decode prog_4_method_13_code 41 = .ok (.return_, 1) := by decide +kernel
theorem d_Y_addProduct_0 : decode prog_4_method_14_code 0 = .ok (.lload_n 1, 1) := by decide +kernel
theorem d_Y_addProduct_1 : decode prog_4_method_14_code 1 = .ok (.bipush 27, 2) := by decide +kernel
theorem d_Y_addProduct_3 : decode prog_4_method_14_code 3 = .ok (.lshr, 1) := by decide +kernel
theorem d_Y_addProduct_4 : decode prog_4_method_14_code 4 = .ok (.lstore 6, 2) := by decide +kernel
theorem d_Y_addProduct_6 : decode prog_4_method_14_code 6 = .ok (.lload_n 1, 1) := by decide +kernel
theorem d_Y_addProduct_7 : decode prog_4_method_14_code 7 = .ok (.ldc2_w 78, 3) := by decide +kernel
theorem d_Y_addProduct_10 : decode prog_4_method_14_code 10 = .ok (.land, 1) := by decide +kernel
theorem d_Y_addProduct_11 : decode prog_4_method_14_code 11 = .ok (.lstore 8, 2) := by decide +kernel
theorem d_Y_addProduct_13 : decode prog_4_method_14_code 13 = .ok (.lload_n 3, 1) := by decide +kernel
theorem d_Y_addProduct_14 : decode prog_4_method_14_code 14 = .ok (.bipush 27, 2) := by decide +kernel
theorem d_Y_addProduct_16 : decode prog_4_method_14_code 16 = .ok (.lshr, 1) := by decide +kernel
theorem d_Y_addProduct_17 : decode prog_4_method_14_code 17 = .ok (.lstore 10, 2) := by decide +kernel
theorem d_Y_addProduct_19 : decode prog_4_method_14_code 19 = .ok (.lload_n 3, 1) := by decide +kernel
theorem d_Y_addProduct_20 : decode prog_4_method_14_code 20 = .ok (.ldc2_w 78, 3) := by decide +kernel
theorem d_Y_addProduct_23 : decode prog_4_method_14_code 23 = .ok (.land, 1) := by decide +kernel
theorem d_Y_addProduct_24 : decode prog_4_method_14_code 24 = .ok (.lstore 12, 2) := by decide +kernel
theorem d_Y_addProduct_26 : decode prog_4_method_14_code 26 = .ok (.aload_n 0, 1) := by decide +kernel
theorem d_Y_addProduct_27 : decode prog_4_method_14_code 27 = .ok (.lload 8, 2) := by decide +kernel
theorem d_Y_addProduct_29 : decode prog_4_method_14_code 29 = .ok (.lload 12, 2) := by decide +kernel
theorem d_Y_addProduct_31 : decode prog_4_method_14_code 31 = .ok (.lmul, 1) := by decide +kernel
theorem d_Y_addProduct_32 : decode prog_4_method_14_code 32 = .ok (.iload 5, 2) := by decide +kernel
theorem d_Y_addProduct_34 : decode prog_4_method_14_code 34 = .ok (.invokestatic 80, 3) := by decide +kernel
theorem d_Y_addProduct_37 : decode prog_4_method_14_code 37 = .ok (.aload_n 0, 1) := by decide +kernel
theorem d_Y_addProduct_38 : decode prog_4_method_14_code 38 = .ok (.lload 8, 2) := by decide +kernel
theorem d_Y_addProduct_40 : decode prog_4_method_14_code 40 = .ok (.lload 10, 2) := by decide +kernel
theorem d_Y_addProduct_42 : decode prog_4_method_14_code 42 = .ok (.lmul, 1) := by decide +kernel
theorem d_Y_addProduct_43 : decode prog_4_method_14_code 43 = .ok (.iload 5, 2) := by decide +kernel
theorem d_Y_addProduct_45 : decode prog_4_method_14_code 45 = .ok (.bipush 27, 2) := by decide +kernel
theorem d_Y_addProduct_47 : decode prog_4_method_14_code 47 = .ok (.iadd, 1) := by decide +kernel
theorem d_Y_addProduct_48 : decode prog_4_method_14_code 48 = .ok (.invokestatic 80, 3) := by decide +kernel
theorem d_Y_addProduct_51 : decode prog_4_method_14_code 51 = .ok (.aload_n 0, 1) := by decide +kernel
theorem d_Y_addProduct_52 : decode prog_4_method_14_code 52 = .ok (.lload 6, 2) := by decide +kernel
theorem d_Y_addProduct_54 : decode prog_4_method_14_code 54 = .ok (.lload 12, 2) := by decide +kernel
theorem d_Y_addProduct_56 : decode prog_4_method_14_code 56 = .ok (.lmul, 1) := by decide +kernel
theorem d_Y_addProduct_57 : decode prog_4_method_14_code 57 = .ok (.iload 5, 2) := by decide +kernel
theorem d_Y_addProduct_59 : decode prog_4_method_14_code 59 = .ok (.bipush 27, 2) := by decide +kernel
theorem d_Y_addProduct_61 : decode prog_4_method_14_code 61 = .ok (.iadd, 1) := by decide +kernel
theorem d_Y_addProduct_62 : decode prog_4_method_14_code 62 = .ok (.invokestatic 80, 3) := by decide +kernel
theorem d_Y_addProduct_65 : decode prog_4_method_14_code 65 = .ok (.aload_n 0, 1) := by decide +kernel
theorem d_Y_addProduct_66 : decode prog_4_method_14_code 66 = .ok (.lload 6, 2) := by decide +kernel
theorem d_Y_addProduct_68 : decode prog_4_method_14_code 68 = .ok (.lload 10, 2) := by decide +kernel
theorem d_Y_addProduct_70 : decode prog_4_method_14_code 70 = .ok (.lmul, 1) := by decide +kernel
theorem d_Y_addProduct_71 : decode prog_4_method_14_code 71 = .ok (.iload 5, 2) := by decide +kernel
theorem d_Y_addProduct_73 : decode prog_4_method_14_code 73 = .ok (.bipush 54, 2) := by decide +kernel
theorem d_Y_addProduct_75 : decode prog_4_method_14_code 75 = .ok (.iadd, 1) := by decide +kernel
theorem d_Y_addProduct_76 : decode prog_4_method_14_code 76 = .ok (.invokestatic 80, 3) := by decide +kernel
theorem d_Y_addProduct_79 : decode prog_4_method_14_code 79 = .ok (.return_, 1) := by decide +kernel
theorem d_Y_compareBig_0 : decode prog_4_method_15_code 0 = .ok (.bipush 29, 2) := by decide +kernel
theorem d_Y_compareBig_2 : decode prog_4_method_15_code 2 = .ok (.istore_n 2, 1) := by decide +kernel
theorem d_Y_compareBig_3 : decode prog_4_method_15_code 3 = .ok (.iload_n 2, 1) := by decide +kernel
theorem d_Y_compareBig_4 : decode prog_4_method_15_code 4 = .ok (.ifCond .lt 33, 3) := by decide +kernel
theorem d_Y_compareBig_7 : decode prog_4_method_15_code 7 = .ok (.aload_n 0, 1) := by decide +kernel
theorem d_Y_compareBig_8 : decode prog_4_method_15_code 8 = .ok (.iload_n 2, 1) := by decide +kernel
theorem d_Y_compareBig_9 : decode prog_4_method_15_code 9 = .ok (.iaload, 1) := by decide +kernel
theorem d_Y_compareBig_10 : decode prog_4_method_15_code 10 = .ok (.aload_n 1, 1) := by decide +kernel
theorem d_Y_compareBig_11 : decode prog_4_method_15_code 11 = .ok (.iload_n 2, 1) := by decide +kernel
theorem d_Y_compareBig_12 : decode prog_4_method_15_code 12 = .ok (.iaload, 1) := by decide +kernel
theorem d_Y_compareBig_13 : decode prog_4_method_15_code 13 = .ok (.if_icmp .eq 18, 3) := by decide +kernel
theorem d_Y_compareBig_16 : decode prog_4_method_15_code 16 = .ok (.aload_n 0, 1) := by decide +kernel
theorem d_Y_compareBig_17 : decode prog_4_method_15_code 17 = .ok (.iload_n 2, 1) := by decide +kernel
theorem d_Y_compareBig_18 : decode prog_4_method_15_code 18 = .ok (.iaload, 1) := by decide +kernel
theorem d_Y_compareBig_19 : decode prog_4_method_15_code 19 = .ok (.aload_n 1, 1) := by decide +kernel
theorem d_Y_compareBig_20 : decode prog_4_method_15_code 20 = .ok (.iload_n 2, 1) := by decide +kernel
theorem d_Y_compareBig_21 : decode prog_4_method_15_code 21 = .ok (.iaload, 1) := by decide +kernel
theorem d_Y_compareBig_22 : decode prog_4_method_15_code 22 = .ok (.if_icmp .ge 7, 3) := by decide +kernel
theorem d_Y_compareBig_25 : decode prog_4_method_15_code 25 = .ok (.iconst (-1), 1) := by decide +kernel
theorem d_Y_compareBig_26 : decode prog_4_method_15_code 26 = .ok (.goto 4, 3) := by decide +kernel
theorem d_Y_compareBig_29 : decode prog_4_method_15_code 29 = .ok (.iconst 1, 1) := by decide +kernel
theorem d_Y_compareBig_30 : decode prog_4_method_15_code 30 = .ok (.ireturn, 1) := by decide +kernel
theorem d_Y_compareBig_31 : decode prog_4_method_15_code 31 = .ok (.iinc 2 (-1), 3) := by decide +kernel
theorem d_Y_compareBig_34 : decode prog_4_method_15_code 34 = .ok (.goto (-31), 3) := by decide +kernel
theorem d_Y_compareBig_37 : decode prog_4_method_15_code 37 = .ok (.iconst 0, 1) := by decide +kernel
theorem d_Y_compareBig_38 : decode prog_4_method_15_code 38 = .ok (.ireturn, 1) := by decide +kernel
theorem d_Y_takeAway_0 : decode prog_4_method_16_code 0 = .ok (.iconst 0, 1) := by decide +kernel
theorem d_Y_takeAway_1 : decode prog_4_method_16_code 1 = .ok (.istore_n 2, 1) := by decide +kernel
theorem d_Y_takeAway_2 : decode prog_4_method_16_code 2 = .ok (.iconst 0, 1) := by decide +kernel
theorem d_Y_takeAway_3 : decode prog_4_method_16_code 3 = .ok (.istore_n 3, 1) := by decide +kernel
theorem d_Y_takeAway_4 : decode prog_4_method_16_code 4 = .ok (.iload_n 3, 1) := by decide +kernel
theorem d_Y_takeAway_5 : decode prog_4_method_16_code 5 = .ok (.bipush 30, 2) := by decide +kernel
theorem d_Y_takeAway_7 : decode prog_4_method_16_code 7 = .ok (.if_icmp .ge 51, 3) := by decide +kernel
theorem d_Y_takeAway_10 : decode prog_4_method_16_code 10 = .ok (.aload_n 0, 1) := by decide +kernel
theorem d_Y_takeAway_11 : decode prog_4_method_16_code 11 = .ok (.iload_n 3, 1) := by decide +kernel
theorem d_Y_takeAway_12 : decode prog_4_method_16_code 12 = .ok (.iaload, 1) := by decide +kernel
theorem d_Y_takeAway_13 : decode prog_4_method_16_code 13 = .ok (.aload_n 1, 1) := by decide +kernel
theorem d_Y_takeAway_14 : decode prog_4_method_16_code 14 = .ok (.iload_n 3, 1) := by decide +kernel
theorem d_Y_takeAway_15 : decode prog_4_method_16_code 15 = .ok (.iaload, 1) := by decide +kernel
theorem d_Y_takeAway_16 : decode prog_4_method_16_code 16 = .ok (.isub, 1) := by decide +kernel
theorem d_Y_takeAway_17 : decode prog_4_method_16_code 17 = .ok (.iload_n 2, 1) := by decide +kernel
theorem d_Y_takeAway_18 : decode prog_4_method_16_code 18 = .ok (.isub, 1) := by decide +kernel
theorem d_Y_takeAway_19 : decode prog_4_method_16_code 19 = .ok (.istore 4, 2) := by decide +kernel
theorem d_Y_takeAway_21 : decode prog_4_method_16_code 21 = .ok (.iload 4, 2) := by decide +kernel
theorem d_Y_takeAway_23 : decode prog_4_method_16_code 23 = .ok (.ifCond .ge 7, 3) := by decide +kernel
theorem d_Y_takeAway_26 : decode prog_4_method_16_code 26 = .ok (.iconst 1, 1) := by decide +kernel
theorem d_Y_takeAway_27 : decode prog_4_method_16_code 27 = .ok (.goto 4, 3) := by decide +kernel
theorem d_Y_takeAway_30 : decode prog_4_method_16_code 30 = .ok (.iconst 0, 1) := by decide +kernel
theorem d_Y_takeAway_31 : decode prog_4_method_16_code 31 = .ok (.istore_n 2, 1) := by decide +kernel
theorem d_Y_takeAway_32 : decode prog_4_method_16_code 32 = .ok (.aload_n 0, 1) := by decide +kernel
theorem d_Y_takeAway_33 : decode prog_4_method_16_code 33 = .ok (.iload_n 3, 1) := by decide +kernel
theorem d_Y_takeAway_34 : decode prog_4_method_16_code 34 = .ok (.iload 4, 2) := by decide +kernel
theorem d_Y_takeAway_36 : decode prog_4_method_16_code 36 = .ok (.ifCond .ge 13, 3) := by decide +kernel
theorem d_Y_takeAway_39 : decode prog_4_method_16_code 39 = .ok (.iload 4, 2) := by decide +kernel
theorem d_Y_takeAway_41 : decode prog_4_method_16_code 41 = .ok (.ldc 84, 2) := by decide +kernel
theorem d_Y_takeAway_43 : decode prog_4_method_16_code 43 = .ok (.iadd, 1) := by decide +kernel
theorem d_Y_takeAway_44 : decode prog_4_method_16_code 44 = .ok (.iconst 1, 1) := by decide +kernel
theorem d_Y_takeAway_45 : decode prog_4_method_16_code 45 = .ok (.iadd, 1) := by decide +kernel
theorem d_Y_takeAway_46 : decode prog_4_method_16_code 46 = .ok (.goto 5, 3) := by decide +kernel
theorem d_Y_takeAway_49 : decode prog_4_method_16_code 49 = .ok (.iload 4, 2) := by decide +kernel
theorem d_Y_takeAway_51 : decode prog_4_method_16_code 51 = .ok (.iastore, 1) := by decide +kernel
theorem d_Y_takeAway_52 : decode prog_4_method_16_code 52 = .ok (.iinc 3 1, 3) := by decide +kernel
theorem d_Y_takeAway_55 : decode prog_4_method_16_code 55 = .ok (.goto (-51), 3) := by decide +kernel
theorem d_Y_takeAway_58 : decode prog_4_method_16_code 58 = .ok (.return_, 1) := by decide +kernel
theorem d_Y_takeTop_0 : decode prog_4_method_17_code 0 = .ok (.aload_n 0, 1) := by decide +kernel
theorem d_Y_takeTop_1 : decode prog_4_method_17_code 1 = .ok (.lconst 0, 1) := by decide +kernel
theorem d_Y_takeTop_2 : decode prog_4_method_17_code 2 = .ok (.putfield 57, 3) := by decide +kernel
theorem d_Y_takeTop_5 : decode prog_4_method_17_code 5 = .ok (.aload_n 0, 1) := by decide +kernel
theorem d_Y_takeTop_6 : decode prog_4_method_17_code 6 = .ok (.iconst 0, 1) := by decide +kernel
theorem d_Y_takeTop_7 : decode prog_4_method_17_code 7 = .ok (.putfield 68, 3) := by decide +kernel
theorem d_Y_takeTop_10 : decode prog_4_method_17_code 10 = .ok (.aload_n 0, 1) := by decide +kernel
theorem d_Y_takeTop_11 : decode prog_4_method_17_code 11 = .ok (.iload_n 2, 1) := by decide +kernel
theorem d_Y_takeTop_12 : decode prog_4_method_17_code 12 = .ok (.putfield 61, 3) := by decide +kernel
theorem d_Y_takeTop_15 : decode prog_4_method_17_code 15 = .ok (.iconst 0, 1) := by decide +kernel
theorem d_Y_takeTop_16 : decode prog_4_method_17_code 16 = .ok (.istore_n 3, 1) := by decide +kernel
theorem d_Y_takeTop_17 : decode prog_4_method_17_code 17 = .ok (.sipush 839, 3) := by decide +kernel
theorem d_Y_takeTop_20 : decode prog_4_method_17_code 20 = .ok (.istore 4, 2) := by decide +kernel
theorem d_Y_takeTop_22 : decode prog_4_method_17_code 22 = .ok (.iload 4, 2) := by decide +kernel
theorem d_Y_takeTop_24 : decode prog_4_method_17_code 24 = .ok (.ifCond .lt 85, 3) := by decide +kernel
theorem d_Y_takeTop_27 : decode prog_4_method_17_code 27 = .ok (.aload_n 1, 1) := by decide +kernel
theorem d_Y_takeTop_28 : decode prog_4_method_17_code 28 = .ok (.iload 4, 2) := by decide +kernel
theorem d_Y_takeTop_30 : decode prog_4_method_17_code 30 = .ok (.bipush 28, 2) := by decide +kernel
theorem d_Y_takeTop_32 : decode prog_4_method_17_code 32 = .ok (.idiv, 1) := by decide +kernel
theorem d_Y_takeTop_33 : decode prog_4_method_17_code 33 = .ok (.iaload, 1) := by decide +kernel
theorem d_Y_takeTop_34 : decode prog_4_method_17_code 34 = .ok (.iload 4, 2) := by decide +kernel
theorem d_Y_takeTop_36 : decode prog_4_method_17_code 36 = .ok (.bipush 28, 2) := by decide +kernel
theorem d_Y_takeTop_38 : decode prog_4_method_17_code 38 = .ok (.irem, 1) := by decide +kernel
theorem d_Y_takeTop_39 : decode prog_4_method_17_code 39 = .ok (.ishr, 1) := by decide +kernel
theorem d_Y_takeTop_40 : decode prog_4_method_17_code 40 = .ok (.iconst 1, 1) := by decide +kernel
theorem d_Y_takeTop_41 : decode prog_4_method_17_code 41 = .ok (.iand, 1) := by decide +kernel
theorem d_Y_takeTop_42 : decode prog_4_method_17_code 42 = .ok (.istore 5, 2) := by decide +kernel
theorem d_Y_takeTop_44 : decode prog_4_method_17_code 44 = .ok (.iload_n 3, 1) := by decide +kernel
theorem d_Y_takeTop_45 : decode prog_4_method_17_code 45 = .ok (.ifCond .ne 11, 3) := by decide +kernel
theorem d_Y_takeTop_48 : decode prog_4_method_17_code 48 = .ok (.iload 5, 2) := by decide +kernel
theorem d_Y_takeTop_50 : decode prog_4_method_17_code 50 = .ok (.ifCond .ne 6, 3) := by decide +kernel
theorem d_Y_takeTop_53 : decode prog_4_method_17_code 53 = .ok (.goto 50, 3) := by decide +kernel
theorem d_Y_takeTop_56 : decode prog_4_method_17_code 56 = .ok (.iload_n 3, 1) := by decide +kernel
theorem d_Y_takeTop_57 : decode prog_4_method_17_code 57 = .ok (.bipush 60, 2) := by decide +kernel
theorem d_Y_takeTop_59 : decode prog_4_method_17_code 59 = .ok (.if_icmp .ge 33, 3) := by decide +kernel
theorem d_Y_takeTop_62 : decode prog_4_method_17_code 62 = .ok (.aload_n 0, 1) := by decide +kernel
theorem d_Y_takeTop_63 : decode prog_4_method_17_code 63 = .ok (.ldc2_w 37, 3) := by decide +kernel
theorem d_Y_takeTop_66 : decode prog_4_method_17_code 66 = .ok (.aload_n 0, 1) := by decide +kernel
theorem d_Y_takeTop_67 : decode prog_4_method_17_code 67 = .ok (.getfield 57, 3) := by decide +kernel
theorem d_Y_takeTop_70 : decode prog_4_method_17_code 70 = .ok (.lmul, 1) := by decide +kernel
theorem d_Y_takeTop_71 : decode prog_4_method_17_code 71 = .ok (.iload 5, 2) := by decide +kernel
theorem d_Y_takeTop_73 : decode prog_4_method_17_code 73 = .ok (.i2l, 1) := by decide +kernel
theorem d_Y_takeTop_74 : decode prog_4_method_17_code 74 = .ok (.ladd, 1) := by decide +kernel
theorem d_Y_takeTop_75 : decode prog_4_method_17_code 75 = .ok (.putfield 57, 3) := by decide +kernel
theorem d_Y_takeTop_78 : decode prog_4_method_17_code 78 = .ok (.iinc 3 1, 3) := by decide +kernel
theorem d_Y_takeTop_81 : decode prog_4_method_17_code 81 = .ok (.aload_n 0, 1) := by decide +kernel
theorem d_Y_takeTop_82 : decode prog_4_method_17_code 82 = .ok (.iload_n 2, 1) := by decide +kernel
theorem d_Y_takeTop_83 : decode prog_4_method_17_code 83 = .ok (.iload 4, 2) := by decide +kernel
theorem d_Y_takeTop_85 : decode prog_4_method_17_code 85 = .ok (.iadd, 1) := by decide +kernel
theorem d_Y_takeTop_86 : decode prog_4_method_17_code 86 = .ok (.putfield 61, 3) := by decide +kernel
theorem d_Y_takeTop_89 : decode prog_4_method_17_code 89 = .ok (.goto 14, 3) := by decide +kernel
theorem d_Y_takeTop_92 : decode prog_4_method_17_code 92 = .ok (.iload 5, 2) := by decide +kernel
theorem d_Y_takeTop_94 : decode prog_4_method_17_code 94 = .ok (.iconst 1, 1) := by decide +kernel
theorem d_Y_takeTop_95 : decode prog_4_method_17_code 95 = .ok (.if_icmp .ne 8, 3) := by decide +kernel
theorem d_Y_takeTop_98 : decode prog_4_method_17_code 98 = .ok (.aload_n 0, 1) := by decide +kernel
theorem d_Y_takeTop_99 : decode prog_4_method_17_code 99 = .ok (.iconst 1, 1) := by decide +kernel
theorem d_Y_takeTop_100 : decode prog_4_method_17_code 100 = .ok (.putfield 68, 3) := by decide +kernel
theorem d_Y_takeTop_103 : decode prog_4_method_17_code 103 = .ok (.iinc 4 (-1), 3) := by decide +kernel
theorem d_Y_takeTop_106 : decode prog_4_method_17_code 106 = .ok (.goto (-84), 3) := by decide +kernel
theorem d_Y_takeTop_109 : decode prog_4_method_17_code 109 = .ok (.return_, 1) := by decide +kernel
theorem d_Y_sum_0 : decode prog_4_method_18_code 0 = .ok (.iload_n 2, 1) := by decide +kernel
theorem d_Y_sum_1 : decode prog_4_method_18_code 1 = .ok (.istore 5, 2) := by decide +kernel
theorem d_Y_sum_3 : decode prog_4_method_18_code 3 = .ok (.iload_n 2, 1) := by decide +kernel
theorem d_Y_sum_4 : decode prog_4_method_18_code 4 = .ok (.iload_n 3, 1) := by decide +kernel
theorem d_Y_sum_5 : decode prog_4_method_18_code 5 = .ok (.if_icmp .ne 39, 3) := by decide +kernel
theorem d_Y_sum_8 : decode prog_4_method_18_code 8 = .ok (.iconst 0, 1) := by decide +kernel
theorem d_Y_sum_9 : decode prog_4_method_18_code 9 = .ok (.istore 6, 2) := by decide +kernel
theorem d_Y_sum_11 : decode prog_4_method_18_code 11 = .ok (.iload 6, 2) := by decide +kernel
theorem d_Y_sum_13 : decode prog_4_method_18_code 13 = .ok (.bipush 30, 2) := by decide +kernel
theorem d_Y_sum_15 : decode prog_4_method_18_code 15 = .ok (.if_icmp .ge 26, 3) := by decide +kernel
theorem d_Y_sum_18 : decode prog_4_method_18_code 18 = .ok (.aload_n 0, 1) := by decide +kernel
theorem d_Y_sum_19 : decode prog_4_method_18_code 19 = .ok (.getfield 21, 3) := by decide +kernel
theorem d_Y_sum_22 : decode prog_4_method_18_code 22 = .ok (.iload 6, 2) := by decide +kernel
theorem d_Y_sum_24 : decode prog_4_method_18_code 24 = .ok (.aload_n 0, 1) := by decide +kernel
theorem d_Y_sum_25 : decode prog_4_method_18_code 25 = .ok (.getfield 24, 3) := by decide +kernel
theorem d_Y_sum_28 : decode prog_4_method_18_code 28 = .ok (.iload 6, 2) := by decide +kernel
theorem d_Y_sum_30 : decode prog_4_method_18_code 30 = .ok (.iaload, 1) := by decide +kernel
theorem d_Y_sum_31 : decode prog_4_method_18_code 31 = .ok (.i2l, 1) := by decide +kernel
theorem d_Y_sum_32 : decode prog_4_method_18_code 32 = .ok (.invokestatic 74, 3) := by decide +kernel
theorem d_Y_sum_35 : decode prog_4_method_18_code 35 = .ok (.iinc 6 1, 3) := by decide +kernel
theorem d_Y_sum_38 : decode prog_4_method_18_code 38 = .ok (.goto (-27), 3) := by decide +kernel
theorem d_Y_sum_41 : decode prog_4_method_18_code 41 = .ok (.goto 75, 3) := by decide +kernel
theorem d_Y_sum_44 : decode prog_4_method_18_code 44 = .ok (.aload_n 0, 1) := by decide +kernel
theorem d_Y_sum_45 : decode prog_4_method_18_code 45 = .ok (.getfield 21, 3) := by decide +kernel
theorem d_Y_sum_48 : decode prog_4_method_18_code 48 = .ok (.aload_n 0, 1) := by decide +kernel
theorem d_Y_sum_49 : decode prog_4_method_18_code 49 = .ok (.getfield 24, 3) := by decide +kernel
theorem d_Y_sum_52 : decode prog_4_method_18_code 52 = .ok (.invokestatic 85, 3) := by decide +kernel
theorem d_Y_sum_55 : decode prog_4_method_18_code 55 = .ok (.ifCond .lt 17, 3) := by decide +kernel
theorem d_Y_sum_58 : decode prog_4_method_18_code 58 = .ok (.aload_n 0, 1) := by decide +kernel
theorem d_Y_sum_59 : decode prog_4_method_18_code 59 = .ok (.getfield 21, 3) := by decide +kernel
theorem d_Y_sum_62 : decode prog_4_method_18_code 62 = .ok (.aload_n 0, 1) := by decide +kernel
theorem d_Y_sum_63 : decode prog_4_method_18_code 63 = .ok (.getfield 24, 3) := by decide +kernel
theorem d_Y_sum_66 : decode prog_4_method_18_code 66 = .ok (.invokestatic 89, 3) := by decide +kernel
theorem d_Y_sum_69 : decode prog_4_method_18_code 69 = .ok (.goto 47, 3) := by decide +kernel
theorem d_Y_sum_72 : decode prog_4_method_18_code 72 = .ok (.aload_n 0, 1) := by decide +kernel
theorem d_Y_sum_73 : decode prog_4_method_18_code 73 = .ok (.getfield 24, 3) := by decide +kernel
theorem d_Y_sum_76 : decode prog_4_method_18_code 76 = .ok (.aload_n 0, 1) := by decide +kernel
theorem d_Y_sum_77 : decode prog_4_method_18_code 77 = .ok (.getfield 21, 3) := by decide +kernel
theorem d_Y_sum_80 : decode prog_4_method_18_code 80 = .ok (.invokestatic 89, 3) := by decide +kernel
theorem d_Y_sum_83 : decode prog_4_method_18_code 83 = .ok (.iconst 0, 1) := by decide +kernel
theorem d_Y_sum_84 : decode prog_4_method_18_code 84 = .ok (.istore 6, 2) := by decide +kernel
theorem d_Y_sum_86 : decode prog_4_method_18_code 86 = .ok (.iload 6, 2) := by decide +kernel
theorem d_Y_sum_88 : decode prog_4_method_18_code 88 = .ok (.bipush 30, 2) := by decide +kernel
theorem d_Y_sum_90 : decode prog_4_method_18_code 90 = .ok (.if_icmp .ge 23, 3) := by decide +kernel
theorem d_Y_sum_93 : decode prog_4_method_18_code 93 = .ok (.aload_n 0, 1) := by decide +kernel
theorem d_Y_sum_94 : decode prog_4_method_18_code 94 = .ok (.getfield 21, 3) := by decide +kernel
theorem d_Y_sum_97 : decode prog_4_method_18_code 97 = .ok (.iload 6, 2) := by decide +kernel
theorem d_Y_sum_99 : decode prog_4_method_18_code 99 = .ok (.aload_n 0, 1) := by decide +kernel
theorem d_Y_sum_100 : decode prog_4_method_18_code 100 = .ok (.getfield 24, 3) := by decide +kernel
theorem d_Y_sum_103 : decode prog_4_method_18_code 103 = .ok (.iload 6, 2) := by decide +kernel
theorem d_Y_sum_105 : decode prog_4_method_18_code 105 = .ok (.iaload, 1) := by decide +kernel
theorem d_Y_sum_106 : decode prog_4_method_18_code 106 = .ok (.iastore, 1) := by decide +kernel
theorem d_Y_sum_107 : decode prog_4_method_18_code 107 = .ok (.iinc 6 1, 3) := by decide +kernel
theorem d_Y_sum_110 : decode prog_4_method_18_code 110 = .ok (.goto (-24), 3) := by decide +kernel
theorem d_Y_sum_113 : decode prog_4_method_18_code 113 = .ok (.iload_n 3, 1) := by decide +kernel
theorem d_Y_sum_114 : decode prog_4_method_18_code 114 = .ok (.istore 5, 2) := by decide +kernel
theorem d_Y_sum_116 : decode prog_4_method_18_code 116 = .ok (.aload_n 0, 1) := by decide +kernel
theorem d_Y_sum_117 : decode prog_4_method_18_code 117 = .ok (.aload_n 0, 1) := by decide +kernel
theorem d_Y_sum_118 : decode prog_4_method_18_code 118 = .ok (.getfield 21, 3) := by decide +kernel
theorem d_Y_sum_121 : decode prog_4_method_18_code 121 = .ok (.sipush (-320), 3) := by decide +kernel
theorem d_Y_sum_124 : decode prog_4_method_18_code 124 = .ok (.invokevirtual 93, 3) := by decide +kernel
theorem d_Y_sum_127 : decode prog_4_method_18_code 127 = .ok (.aload_n 0, 1) := by decide +kernel
theorem d_Y_sum_128 : decode prog_4_method_18_code 128 = .ok (.iload_n 1, 1) := by decide +kernel
theorem d_Y_sum_129 : decode prog_4_method_18_code 129 = .ok (.iload 5, 2) := by decide +kernel
theorem d_Y_sum_131 : decode prog_4_method_18_code 131 = .ok (.iload 4, 2) := by decide +kernel
theorem d_Y_sum_133 : decode prog_4_method_18_code 133 = .ok (.invokevirtual 97, 3) := by decide +kernel
theorem d_Y_sum_136 : decode prog_4_method_18_code 136 = .ok (.ireturn, 1) := by decide +kernel
theorem d_Y_set_0 : decode prog_4_method_19_code 0 = .ok (.iload_n 1, 1) := by decide +kernel
theorem d_Y_set_1 : decode prog_4_method_19_code 1 = .ok (.invokestatic 101, 3) := by decide +kernel
theorem d_Y_set_4 : decode prog_4_method_19_code 4 = .ok (.ifCond .ne 35, 3) := by decide +kernel
theorem d_Y_set_7 : decode prog_4_method_19_code 7 = .ok (.lload_n 2, 1) := by decide +kernel
theorem d_Y_set_8 : decode prog_4_method_19_code 8 = .ok (.ldc2_w 105, 3) := by decide +kernel
theorem d_Y_set_11 : decode prog_4_method_19_code 11 = .ok (.lcmp, 1) := by decide +kernel
theorem d_Y_set_12 : decode prog_4_method_19_code 12 = .ok (.ifCond .lt 27, 3) := by decide +kernel
theorem d_Y_set_15 : decode prog_4_method_19_code 15 = .ok (.lload_n 2, 1) := by decide +kernel
theorem d_Y_set_16 : decode prog_4_method_19_code 16 = .ok (.ldc2_w 107, 3) := by decide +kernel
theorem d_Y_set_19 : decode prog_4_method_19_code 19 = .ok (.lcmp, 1) := by decide +kernel
theorem d_Y_set_20 : decode prog_4_method_19_code 20 = .ok (.ifCond .gt 19, 3) := by decide +kernel
theorem d_Y_set_23 : decode prog_4_method_19_code 23 = .ok (.iload 4, 2) := by decide +kernel
theorem d_Y_set_25 : decode prog_4_method_19_code 25 = .ok (.sipush (-250), 3) := by decide +kernel
theorem d_Y_set_28 : decode prog_4_method_19_code 28 = .ok (.if_icmp .lt 11, 3) := by decide +kernel
theorem d_Y_set_31 : decode prog_4_method_19_code 31 = .ok (.iload 4, 2) := by decide +kernel
theorem d_Y_set_33 : decode prog_4_method_19_code 33 = .ok (.sipush 250, 3) := by decide +kernel
theorem d_Y_set_36 : decode prog_4_method_19_code 36 = .ok (.if_icmp .le 5, 3) := by decide +kernel
theorem d_Y_set_39 : decode prog_4_method_19_code 39 = .ok (.iconst (-1), 1) := by decide +kernel
theorem d_Y_set_40 : decode prog_4_method_19_code 40 = .ok (.ireturn, 1) := by decide +kernel
theorem d_Y_set_41 : decode prog_4_method_19_code 41 = .ok (.lload_n 2, 1) := by decide +kernel
theorem d_Y_set_42 : decode prog_4_method_19_code 42 = .ok (.lconst 0, 1) := by decide +kernel
theorem d_Y_set_43 : decode prog_4_method_19_code 43 = .ok (.lcmp, 1) := by decide +kernel
theorem d_Y_set_44 : decode prog_4_method_19_code 44 = .ok (.ifCond .ge 8, 3) := by decide +kernel
theorem d_Y_set_47 : decode prog_4_method_19_code 47 = .ok (.lload_n 2, 1) := by decide +kernel
theorem d_Y_set_48 : decode prog_4_method_19_code 48 = .ok (.lneg, 1) := by decide +kernel
theorem d_Y_set_49 : decode prog_4_method_19_code 49 = .ok (.goto 4, 3) := by decide +kernel
theorem d_Y_set_52 : decode prog_4_method_19_code 52 = .ok (.lload_n 2, 1) := by decide +kernel
theorem d_Y_set_53 : decode prog_4_method_19_code 53 = .ok (.lstore 5, 2) := by decide +kernel
theorem d_Y_set_55 : decode prog_4_method_19_code 55 = .ok (.lload_n 2, 1) := by decide +kernel
theorem d_Y_set_56 : decode prog_4_method_19_code 56 = .ok (.lconst 0, 1) := by decide +kernel
theorem d_Y_set_57 : decode prog_4_method_19_code 57 = .ok (.lcmp, 1) := by decide +kernel
theorem d_Y_set_58 : decode prog_4_method_19_code 58 = .ok (.ifCond .eq 18, 3) := by decide +kernel
theorem d_Y_set_61 : decode prog_4_method_19_code 61 = .ok (.lload 5, 2) := by decide +kernel
theorem d_Y_set_63 : decode prog_4_method_19_code 63 = .ok (.iload 4, 2) := by decide +kernel
theorem d_Y_set_65 : decode prog_4_method_19_code 65 = .ok (.invokestatic 39, 3) := by decide +kernel
theorem d_Y_set_68 : decode prog_4_method_19_code 68 = .ok (.ifCond .ne 8, 3) := by decide +kernel
theorem d_Y_set_71 : decode prog_4_method_19_code 71 = .ok (.aload_n 0, 1) := by decide +kernel
theorem d_Y_set_72 : decode prog_4_method_19_code 72 = .ok (.invokevirtual 43, 3) := by decide +kernel
theorem d_Y_set_75 : decode prog_4_method_19_code 75 = .ok (.ireturn, 1) := by decide +kernel
theorem d_Y_set_76 : decode prog_4_method_19_code 76 = .ok (.aload_n 0, 1) := by decide +kernel
theorem d_Y_set_77 : decode prog_4_method_19_code 77 = .ok (.iload_n 1, 1) := by decide +kernel
theorem d_Y_set_78 : decode prog_4_method_19_code 78 = .ok (.lload_n 2, 1) := by decide +kernel
theorem d_Y_set_79 : decode prog_4_method_19_code 79 = .ok (.lconst 0, 1) := by decide +kernel
theorem d_Y_set_80 : decode prog_4_method_19_code 80 = .ok (.lcmp, 1) := by decide +kernel
theorem d_Y_set_81 : decode prog_4_method_19_code 81 = .ok (.ifCond .ge 7, 3) := by decide +kernel
theorem d_Y_set_84 : decode prog_4_method_19_code 84 = .ok (.iconst 1, 1) := by decide +kernel
theorem d_Y_set_85 : decode prog_4_method_19_code 85 = .ok (.goto 4, 3) := by decide +kernel
theorem d_Y_set_88 : decode prog_4_method_19_code 88 = .ok (.iconst 0, 1) := by decide +kernel
theorem d_Y_set_89 : decode prog_4_method_19_code 89 = .ok (.lload 5, 2) := by decide +kernel
theorem d_Y_set_91 : decode prog_4_method_19_code 91 = .ok (.iload 4, 2) := by decide +kernel
theorem d_Y_set_93 : decode prog_4_method_19_code 93 = .ok (.invokevirtual 47, 3) := by decide +kernel
theorem d_Y_set_96 : decode prog_4_method_19_code 96 = .ok (.iconst 0, 1) := by decide +kernel
theorem d_Y_set_97 : decode prog_4_method_19_code 97 = .ok (.ireturn, 1) := by decide +kernel
theorem d_Y_refused_0 : decode prog_4_method_20_code 0 = .ok (.iload_n 1, 1) := by decide +kernel
theorem d_Y_refused_1 : decode prog_4_method_20_code 1 = .ok (.invokestatic 101, 3) := by decide +kernel
theorem d_Y_refused_4 : decode prog_4_method_20_code 4 = .ok (.ifCond .ne 38, 3) := by decide +kernel
theorem d_Y_refused_7 : decode prog_4_method_20_code 7 = .ok (.iload_n 2, 1) := by decide +kernel
theorem d_Y_refused_8 : decode prog_4_method_20_code 8 = .ok (.invokestatic 101, 3) := by decide +kernel
theorem d_Y_refused_11 : decode prog_4_method_20_code 11 = .ok (.ifCond .ne 31, 3) := by decide +kernel
theorem d_Y_refused_14 : decode prog_4_method_20_code 14 = .ok (.iload_n 3, 1) := by decide +kernel
theorem d_Y_refused_15 : decode prog_4_method_20_code 15 = .ok (.invokestatic 101, 3) := by decide +kernel
theorem d_Y_refused_18 : decode prog_4_method_20_code 18 = .ok (.ifCond .ne 24, 3) := by decide +kernel
theorem d_Y_refused_21 : decode prog_4_method_20_code 21 = .ok (.iload 4, 2) := by decide +kernel
theorem d_Y_refused_23 : decode prog_4_method_20_code 23 = .ok (.ifCond .eq 23, 3) := by decide +kernel
theorem d_Y_refused_26 : decode prog_4_method_20_code 26 = .ok (.aload_n 0, 1) := by decide +kernel
theorem d_Y_refused_27 : decode prog_4_method_20_code 27 = .ok (.iload_n 2, 1) := by decide +kernel
theorem d_Y_refused_28 : decode prog_4_method_20_code 28 = .ok (.invokevirtual 109, 3) := by decide +kernel
theorem d_Y_refused_31 : decode prog_4_method_20_code 31 = .ok (.ifCond .eq 11, 3) := by decide +kernel
theorem d_Y_refused_34 : decode prog_4_method_20_code 34 = .ok (.aload_n 0, 1) := by decide +kernel
theorem d_Y_refused_35 : decode prog_4_method_20_code 35 = .ok (.iload_n 3, 1) := by decide +kernel
theorem d_Y_refused_36 : decode prog_4_method_20_code 36 = .ok (.invokevirtual 109, 3) := by decide +kernel
theorem d_Y_refused_39 : decode prog_4_method_20_code 39 = .ok (.ifCond .ne 7, 3) := by decide +kernel
theorem d_Y_refused_42 : decode prog_4_method_20_code 42 = .ok (.iconst 1, 1) := by decide +kernel
theorem d_Y_refused_43 : decode prog_4_method_20_code 43 = .ok (.goto 4, 3) := by decide +kernel
theorem d_Y_refused_46 : decode prog_4_method_20_code 46 = .ok (.iconst 0, 1) := by decide +kernel
theorem d_Y_refused_47 : decode prog_4_method_20_code 47 = .ok (.ireturn, 1) := by decide +kernel
theorem d_Y_addition_0 : decode prog_4_method_21_code 0 = .ok (.aload_n 0, 1) := by decide +kernel
theorem d_Y_addition_1 : decode prog_4_method_21_code 1 = .ok (.iload_n 1, 1) := by decide +kernel
theorem d_Y_addition_2 : decode prog_4_method_21_code 2 = .ok (.iload_n 2, 1) := by decide +kernel
theorem d_Y_addition_3 : decode prog_4_method_21_code 3 = .ok (.iload_n 3, 1) := by decide +kernel
theorem d_Y_addition_4 : decode prog_4_method_21_code 4 = .ok (.iload 4, 2) := by decide +kernel
theorem d_Y_addition_6 : decode prog_4_method_21_code 6 = .ok (.invokevirtual 112, 3) := by decide +kernel
theorem d_Y_addition_9 : decode prog_4_method_21_code 9 = .ok (.ifCond .eq 5, 3) := by decide +kernel
theorem d_Y_addition_12 : decode prog_4_method_21_code 12 = .ok (.iconst (-1), 1) := by decide +kernel
theorem d_Y_addition_13 : decode prog_4_method_21_code 13 = .ok (.ireturn, 1) := by decide +kernel
theorem d_Y_addition_14 : decode prog_4_method_21_code 14 = .ok (.aload_n 0, 1) := by decide +kernel
theorem d_Y_addition_15 : decode prog_4_method_21_code 15 = .ok (.getfield 21, 3) := by decide +kernel
theorem d_Y_addition_18 : decode prog_4_method_21_code 18 = .ok (.invokestatic 116, 3) := by decide +kernel
theorem d_Y_addition_21 : decode prog_4_method_21_code 21 = .ok (.aload_n 0, 1) := by decide +kernel
theorem d_Y_addition_22 : decode prog_4_method_21_code 22 = .ok (.getfield 24, 3) := by decide +kernel
theorem d_Y_addition_25 : decode prog_4_method_21_code 25 = .ok (.invokestatic 116, 3) := by decide +kernel
theorem d_Y_addition_28 : decode prog_4_method_21_code 28 = .ok (.aload_n 0, 1) := by decide +kernel
theorem d_Y_addition_29 : decode prog_4_method_21_code 29 = .ok (.getfield 21, 3) := by decide +kernel
theorem d_Y_addition_32 : decode prog_4_method_21_code 32 = .ok (.aload_n 0, 1) := by decide +kernel
theorem d_Y_addition_33 : decode prog_4_method_21_code 33 = .ok (.getfield 7, 3) := by decide +kernel
theorem d_Y_addition_36 : decode prog_4_method_21_code 36 = .ok (.iload_n 2, 1) := by decide +kernel
theorem d_Y_addition_37 : decode prog_4_method_21_code 37 = .ok (.laload, 1) := by decide +kernel
theorem d_Y_addition_38 : decode prog_4_method_21_code 38 = .ok (.aload_n 0, 1) := by decide +kernel
theorem d_Y_addition_39 : decode prog_4_method_21_code 39 = .ok (.getfield 13, 3) := by decide +kernel
theorem d_Y_addition_42 : decode prog_4_method_21_code 42 = .ok (.iload_n 2, 1) := by decide +kernel
theorem d_Y_addition_43 : decode prog_4_method_21_code 43 = .ok (.iaload, 1) := by decide +kernel
theorem d_Y_addition_44 : decode prog_4_method_21_code 44 = .ok (.sipush 320, 3) := by decide +kernel
theorem d_Y_addition_47 : decode prog_4_method_21_code 47 = .ok (.iadd, 1) := by decide +kernel
theorem d_Y_addition_48 : decode prog_4_method_21_code 48 = .ok (.invokestatic 80, 3) := by decide +kernel
theorem d_Y_addition_51 : decode prog_4_method_21_code 51 = .ok (.aload_n 0, 1) := by decide +kernel
theorem d_Y_addition_52 : decode prog_4_method_21_code 52 = .ok (.getfield 24, 3) := by decide +kernel
theorem d_Y_addition_55 : decode prog_4_method_21_code 55 = .ok (.aload_n 0, 1) := by decide +kernel
theorem d_Y_addition_56 : decode prog_4_method_21_code 56 = .ok (.getfield 7, 3) := by decide +kernel
theorem d_Y_addition_59 : decode prog_4_method_21_code 59 = .ok (.iload_n 3, 1) := by decide +kernel
theorem d_Y_addition_60 : decode prog_4_method_21_code 60 = .ok (.laload, 1) := by decide +kernel
theorem d_Y_addition_61 : decode prog_4_method_21_code 61 = .ok (.aload_n 0, 1) := by decide +kernel
theorem d_Y_addition_62 : decode prog_4_method_21_code 62 = .ok (.getfield 13, 3) := by decide +kernel
theorem d_Y_addition_65 : decode prog_4_method_21_code 65 = .ok (.iload_n 3, 1) := by decide +kernel
theorem d_Y_addition_66 : decode prog_4_method_21_code 66 = .ok (.iaload, 1) := by decide +kernel
theorem d_Y_addition_67 : decode prog_4_method_21_code 67 = .ok (.sipush 320, 3) := by decide +kernel
theorem d_Y_addition_70 : decode prog_4_method_21_code 70 = .ok (.iadd, 1) := by decide +kernel
theorem d_Y_addition_71 : decode prog_4_method_21_code 71 = .ok (.invokestatic 80, 3) := by decide +kernel
theorem d_Y_addition_74 : decode prog_4_method_21_code 74 = .ok (.aload_n 0, 1) := by decide +kernel
theorem d_Y_addition_75 : decode prog_4_method_21_code 75 = .ok (.iload_n 1, 1) := by decide +kernel
theorem d_Y_addition_76 : decode prog_4_method_21_code 76 = .ok (.aload_n 0, 1) := by decide +kernel
theorem d_Y_addition_77 : decode prog_4_method_21_code 77 = .ok (.getfield 17, 3) := by decide +kernel
theorem d_Y_addition_80 : decode prog_4_method_21_code 80 = .ok (.iload_n 2, 1) := by decide +kernel
theorem d_Y_addition_81 : decode prog_4_method_21_code 81 = .ok (.baload, 1) := by decide +kernel
theorem d_Y_addition_82 : decode prog_4_method_21_code 82 = .ok (.aload_n 0, 1) := by decide +kernel
theorem d_Y_addition_83 : decode prog_4_method_21_code 83 = .ok (.getfield 17, 3) := by decide +kernel
theorem d_Y_addition_86 : decode prog_4_method_21_code 86 = .ok (.iload_n 3, 1) := by decide +kernel
theorem d_Y_addition_87 : decode prog_4_method_21_code 87 = .ok (.baload, 1) := by decide +kernel
theorem d_Y_addition_88 : decode prog_4_method_21_code 88 = .ok (.iload 5, 2) := by decide +kernel
theorem d_Y_addition_90 : decode prog_4_method_21_code 90 = .ok (.if_icmp .eq 7, 3) := by decide +kernel
theorem d_Y_addition_93 : decode prog_4_method_21_code 93 = .ok (.iconst 1, 1) := by decide +kernel
theorem d_Y_addition_94 : decode prog_4_method_21_code 94 = .ok (.goto 4, 3) := by decide +kernel
theorem d_Y_addition_97 : decode prog_4_method_21_code 97 = .ok (.iconst 0, 1) := by decide +kernel
theorem d_Y_addition_98 : decode prog_4_method_21_code 98 = .ok (.iload 4, 2) := by decide +kernel
theorem d_Y_addition_100 : decode prog_4_method_21_code 100 = .ok (.invokestatic 120, 3) := by decide +kernel
theorem d_Y_addition_103 : decode prog_4_method_21_code 103 = .ok (.invokevirtual 124, 3) := by decide +kernel
theorem d_Y_addition_106 : decode prog_4_method_21_code 106 = .ok (.ireturn, 1) := by decide +kernel
theorem d_Y_add_0 : decode prog_4_method_22_code 0 = .ok (.aload_n 0, 1) := by decide +kernel
theorem d_Y_add_1 : decode prog_4_method_22_code 1 = .ok (.iload_n 1, 1) := by decide +kernel
theorem d_Y_add_2 : decode prog_4_method_22_code 2 = .ok (.iload_n 2, 1) := by decide +kernel
theorem d_Y_add_3 : decode prog_4_method_22_code 3 = .ok (.iload_n 3, 1) := by decide +kernel
theorem d_Y_add_4 : decode prog_4_method_22_code 4 = .ok (.iload 4, 2) := by decide +kernel
theorem d_Y_add_6 : decode prog_4_method_22_code 6 = .ok (.iconst 0, 1) := by decide +kernel
theorem d_Y_add_7 : decode prog_4_method_22_code 7 = .ok (.invokevirtual 128, 3) := by decide +kernel
theorem d_Y_add_10 : decode prog_4_method_22_code 10 = .ok (.ireturn, 1) := by decide +kernel
theorem d_Y_subtract_0 : decode prog_4_method_23_code 0 = .ok (.aload_n 0, 1) := by decide +kernel
theorem d_Y_subtract_1 : decode prog_4_method_23_code 1 = .ok (.iload_n 1, 1) := by decide +kernel
theorem d_Y_subtract_2 : decode prog_4_method_23_code 2 = .ok (.iload_n 2, 1) := by decide +kernel
theorem d_Y_subtract_3 : decode prog_4_method_23_code 3 = .ok (.iload_n 3, 1) := by decide +kernel
theorem d_Y_subtract_4 : decode prog_4_method_23_code 4 = .ok (.iload 4, 2) := by decide +kernel
theorem d_Y_subtract_6 : decode prog_4_method_23_code 6 = .ok (.iconst 1, 1) := by decide +kernel
theorem d_Y_subtract_7 : decode prog_4_method_23_code 7 = .ok (.invokevirtual 128, 3) := by decide +kernel
theorem d_Y_subtract_10 : decode prog_4_method_23_code 10 = .ok (.ireturn, 1) := by decide +kernel
theorem d_Y_fused_0 : decode prog_4_method_24_code 0 = .ok (.aload_n 0, 1) := by decide +kernel
theorem d_Y_fused_1 : decode prog_4_method_24_code 1 = .ok (.getfield 21, 3) := by decide +kernel
theorem d_Y_fused_4 : decode prog_4_method_24_code 4 = .ok (.invokestatic 116, 3) := by decide +kernel
theorem d_Y_fused_7 : decode prog_4_method_24_code 7 = .ok (.aload_n 0, 1) := by decide +kernel
theorem d_Y_fused_8 : decode prog_4_method_24_code 8 = .ok (.getfield 24, 3) := by decide +kernel
theorem d_Y_fused_11 : decode prog_4_method_24_code 11 = .ok (.invokestatic 116, 3) := by decide +kernel
theorem d_Y_fused_14 : decode prog_4_method_24_code 14 = .ok (.aload_n 0, 1) := by decide +kernel
theorem d_Y_fused_15 : decode prog_4_method_24_code 15 = .ok (.getfield 21, 3) := by decide +kernel
theorem d_Y_fused_18 : decode prog_4_method_24_code 18 = .ok (.aload_n 0, 1) := by decide +kernel
theorem d_Y_fused_19 : decode prog_4_method_24_code 19 = .ok (.getfield 7, 3) := by decide +kernel
theorem d_Y_fused_22 : decode prog_4_method_24_code 22 = .ok (.iload_n 2, 1) := by decide +kernel
theorem d_Y_fused_23 : decode prog_4_method_24_code 23 = .ok (.laload, 1) := by decide +kernel
theorem d_Y_fused_24 : decode prog_4_method_24_code 24 = .ok (.aload_n 0, 1) := by decide +kernel
theorem d_Y_fused_25 : decode prog_4_method_24_code 25 = .ok (.getfield 7, 3) := by decide +kernel
theorem d_Y_fused_28 : decode prog_4_method_24_code 28 = .ok (.iload_n 3, 1) := by decide +kernel
theorem d_Y_fused_29 : decode prog_4_method_24_code 29 = .ok (.laload, 1) := by decide +kernel
theorem d_Y_fused_30 : decode prog_4_method_24_code 30 = .ok (.aload_n 0, 1) := by decide +kernel
theorem d_Y_fused_31 : decode prog_4_method_24_code 31 = .ok (.getfield 13, 3) := by decide +kernel
theorem d_Y_fused_34 : decode prog_4_method_24_code 34 = .ok (.iload_n 2, 1) := by decide +kernel
theorem d_Y_fused_35 : decode prog_4_method_24_code 35 = .ok (.iaload, 1) := by decide +kernel
theorem d_Y_fused_36 : decode prog_4_method_24_code 36 = .ok (.aload_n 0, 1) := by decide +kernel
theorem d_Y_fused_37 : decode prog_4_method_24_code 37 = .ok (.getfield 13, 3) := by decide +kernel
theorem d_Y_fused_40 : decode prog_4_method_24_code 40 = .ok (.iload_n 3, 1) := by decide +kernel
theorem d_Y_fused_41 : decode prog_4_method_24_code 41 = .ok (.iaload, 1) := by decide +kernel
theorem d_Y_fused_42 : decode prog_4_method_24_code 42 = .ok (.iadd, 1) := by decide +kernel
theorem d_Y_fused_43 : decode prog_4_method_24_code 43 = .ok (.sipush 320, 3) := by decide +kernel
theorem d_Y_fused_46 : decode prog_4_method_24_code 46 = .ok (.iadd, 1) := by decide +kernel
theorem d_Y_fused_47 : decode prog_4_method_24_code 47 = .ok (.invokestatic 132, 3) := by decide +kernel
theorem d_Y_fused_50 : decode prog_4_method_24_code 50 = .ok (.iload 4, 2) := by decide +kernel
theorem d_Y_fused_52 : decode prog_4_method_24_code 52 = .ok (.ifCond .lt 28, 3) := by decide +kernel
theorem d_Y_fused_55 : decode prog_4_method_24_code 55 = .ok (.aload_n 0, 1) := by decide +kernel
theorem d_Y_fused_56 : decode prog_4_method_24_code 56 = .ok (.getfield 24, 3) := by decide +kernel
theorem d_Y_fused_59 : decode prog_4_method_24_code 59 = .ok (.aload_n 0, 1) := by decide +kernel
theorem d_Y_fused_60 : decode prog_4_method_24_code 60 = .ok (.getfield 7, 3) := by decide +kernel
theorem d_Y_fused_63 : decode prog_4_method_24_code 63 = .ok (.iload 4, 2) := by decide +kernel
theorem d_Y_fused_65 : decode prog_4_method_24_code 65 = .ok (.laload, 1) := by decide +kernel
theorem d_Y_fused_66 : decode prog_4_method_24_code 66 = .ok (.aload_n 0, 1) := by decide +kernel
theorem d_Y_fused_67 : decode prog_4_method_24_code 67 = .ok (.getfield 13, 3) := by decide +kernel
theorem d_Y_fused_70 : decode prog_4_method_24_code 70 = .ok (.iload 4, 2) := by decide +kernel
theorem d_Y_fused_72 : decode prog_4_method_24_code 72 = .ok (.iaload, 1) := by decide +kernel
theorem d_Y_fused_73 : decode prog_4_method_24_code 73 = .ok (.sipush 320, 3) := by decide +kernel
theorem d_Y_fused_76 : decode prog_4_method_24_code 76 = .ok (.iadd, 1) := by decide +kernel
theorem d_Y_fused_77 : decode prog_4_method_24_code 77 = .ok (.invokestatic 80, 3) := by decide +kernel
theorem d_Y_fused_80 : decode prog_4_method_24_code 80 = .ok (.aload_n 0, 1) := by decide +kernel
theorem d_Y_fused_81 : decode prog_4_method_24_code 81 = .ok (.getfield 17, 3) := by decide +kernel
theorem d_Y_fused_84 : decode prog_4_method_24_code 84 = .ok (.iload_n 2, 1) := by decide +kernel
theorem d_Y_fused_85 : decode prog_4_method_24_code 85 = .ok (.baload, 1) := by decide +kernel
theorem d_Y_fused_86 : decode prog_4_method_24_code 86 = .ok (.aload_n 0, 1) := by decide +kernel
theorem d_Y_fused_87 : decode prog_4_method_24_code 87 = .ok (.getfield 17, 3) := by decide +kernel
theorem d_Y_fused_90 : decode prog_4_method_24_code 90 = .ok (.iload_n 3, 1) := by decide +kernel
theorem d_Y_fused_91 : decode prog_4_method_24_code 91 = .ok (.baload, 1) := by decide +kernel
theorem d_Y_fused_92 : decode prog_4_method_24_code 92 = .ok (.if_icmp .eq 7, 3) := by decide +kernel
theorem d_Y_fused_95 : decode prog_4_method_24_code 95 = .ok (.iconst 1, 1) := by decide +kernel
theorem d_Y_fused_96 : decode prog_4_method_24_code 96 = .ok (.goto 4, 3) := by decide +kernel
theorem d_Y_fused_99 : decode prog_4_method_24_code 99 = .ok (.iconst 0, 1) := by decide +kernel
theorem d_Y_fused_100 : decode prog_4_method_24_code 100 = .ok (.istore 6, 2) := by decide +kernel
theorem d_Y_fused_102 : decode prog_4_method_24_code 102 = .ok (.aload_n 0, 1) := by decide +kernel
theorem d_Y_fused_103 : decode prog_4_method_24_code 103 = .ok (.iload_n 1, 1) := by decide +kernel
theorem d_Y_fused_104 : decode prog_4_method_24_code 104 = .ok (.iload 6, 2) := by decide +kernel
theorem d_Y_fused_106 : decode prog_4_method_24_code 106 = .ok (.iload 4, 2) := by decide +kernel
theorem d_Y_fused_108 : decode prog_4_method_24_code 108 = .ok (.ifCond .lt 13, 3) := by decide +kernel
theorem d_Y_fused_111 : decode prog_4_method_24_code 111 = .ok (.aload_n 0, 1) := by decide +kernel
theorem d_Y_fused_112 : decode prog_4_method_24_code 112 = .ok (.getfield 17, 3) := by decide +kernel
theorem d_Y_fused_115 : decode prog_4_method_24_code 115 = .ok (.iload 4, 2) := by decide +kernel
theorem d_Y_fused_117 : decode prog_4_method_24_code 117 = .ok (.baload, 1) := by decide +kernel
theorem d_Y_fused_118 : decode prog_4_method_24_code 118 = .ok (.goto 5, 3) := by decide +kernel
theorem d_Y_fused_121 : decode prog_4_method_24_code 121 = .ok (.iload 6, 2) := by decide +kernel
theorem d_Y_fused_123 : decode prog_4_method_24_code 123 = .ok (.iload 5, 2) := by decide +kernel
theorem d_Y_fused_125 : decode prog_4_method_24_code 125 = .ok (.invokevirtual 124, 3) := by decide +kernel
theorem d_Y_fused_128 : decode prog_4_method_24_code 128 = .ok (.ireturn, 1) := by decide +kernel
theorem d_Y_multiply_0 : decode prog_4_method_25_code 0 = .ok (.aload_n 0, 1) := by decide +kernel
theorem d_Y_multiply_1 : decode prog_4_method_25_code 1 = .ok (.iload_n 1, 1) := by decide +kernel
theorem d_Y_multiply_2 : decode prog_4_method_25_code 2 = .ok (.iload_n 2, 1) := by decide +kernel
theorem d_Y_multiply_3 : decode prog_4_method_25_code 3 = .ok (.iload_n 3, 1) := by decide +kernel
theorem d_Y_multiply_4 : decode prog_4_method_25_code 4 = .ok (.iload 4, 2) := by decide +kernel
theorem d_Y_multiply_6 : decode prog_4_method_25_code 6 = .ok (.invokevirtual 112, 3) := by decide +kernel
theorem d_Y_multiply_9 : decode prog_4_method_25_code 9 = .ok (.ifCond .eq 7, 3) := by decide +kernel
theorem d_Y_multiply_12 : decode prog_4_method_25_code 12 = .ok (.iconst (-1), 1) := by decide +kernel
theorem d_Y_multiply_13 : decode prog_4_method_25_code 13 = .ok (.goto 16, 3) := by decide +kernel
theorem d_Y_multiply_16 : decode prog_4_method_25_code 16 = .ok (.aload_n 0, 1) := by decide +kernel
theorem d_Y_multiply_17 : decode prog_4_method_25_code 17 = .ok (.iload_n 1, 1) := by decide +kernel
theorem d_Y_multiply_18 : decode prog_4_method_25_code 18 = .ok (.iload_n 2, 1) := by decide +kernel
theorem d_Y_multiply_19 : decode prog_4_method_25_code 19 = .ok (.iload_n 3, 1) := by decide +kernel
theorem d_Y_multiply_20 : decode prog_4_method_25_code 20 = .ok (.iconst (-1), 1) := by decide +kernel
theorem d_Y_multiply_21 : decode prog_4_method_25_code 21 = .ok (.iload 4, 2) := by decide +kernel
theorem d_Y_multiply_23 : decode prog_4_method_25_code 23 = .ok (.invokestatic 120, 3) := by decide +kernel
theorem d_Y_multiply_26 : decode prog_4_method_25_code 26 = .ok (.invokevirtual 136, 3) := by decide +kernel
theorem d_Y_multiply_29 : decode prog_4_method_25_code 29 = .ok (.ireturn, 1) := by decide +kernel
theorem d_Y_fuse_0 : decode prog_4_method_26_code 0 = .ok (.aload_n 0, 1) := by decide +kernel
theorem d_Y_fuse_1 : decode prog_4_method_26_code 1 = .ok (.iload_n 1, 1) := by decide +kernel
theorem d_Y_fuse_2 : decode prog_4_method_26_code 2 = .ok (.iload_n 2, 1) := by decide +kernel
theorem d_Y_fuse_3 : decode prog_4_method_26_code 3 = .ok (.iload_n 3, 1) := by decide +kernel
theorem d_Y_fuse_4 : decode prog_4_method_26_code 4 = .ok (.iconst 0, 1) := by decide +kernel
theorem d_Y_fuse_5 : decode prog_4_method_26_code 5 = .ok (.invokevirtual 112, 3) := by decide +kernel
theorem d_Y_fuse_8 : decode prog_4_method_26_code 8 = .ok (.ifCond .ne 11, 3) := by decide +kernel
theorem d_Y_fuse_11 : decode prog_4_method_26_code 11 = .ok (.iload 4, 2) := by decide +kernel
theorem d_Y_fuse_13 : decode prog_4_method_26_code 13 = .ok (.invokestatic 101, 3) := by decide +kernel
theorem d_Y_fuse_16 : decode prog_4_method_26_code 16 = .ok (.ifCond .eq 7, 3) := by decide +kernel
theorem d_Y_fuse_19 : decode prog_4_method_26_code 19 = .ok (.iconst (-1), 1) := by decide +kernel
theorem d_Y_fuse_20 : decode prog_4_method_26_code 20 = .ok (.goto 14, 3) := by decide +kernel
theorem d_Y_fuse_23 : decode prog_4_method_26_code 23 = .ok (.aload_n 0, 1) := by decide +kernel
theorem d_Y_fuse_24 : decode prog_4_method_26_code 24 = .ok (.iload_n 1, 1) := by decide +kernel
theorem d_Y_fuse_25 : decode prog_4_method_26_code 25 = .ok (.iload_n 2, 1) := by decide +kernel
theorem d_Y_fuse_26 : decode prog_4_method_26_code 26 = .ok (.iload_n 3, 1) := by decide +kernel
theorem d_Y_fuse_27 : decode prog_4_method_26_code 27 = .ok (.iload 4, 2) := by decide +kernel
theorem d_Y_fuse_29 : decode prog_4_method_26_code 29 = .ok (.bipush 53, 2) := by decide +kernel
theorem d_Y_fuse_31 : decode prog_4_method_26_code 31 = .ok (.invokevirtual 136, 3) := by decide +kernel
theorem d_Y_fuse_34 : decode prog_4_method_26_code 34 = .ok (.ireturn, 1) := by decide +kernel
theorem d_Y_fuseNarrow_0 : decode prog_4_method_27_code 0 = .ok (.aload_n 0, 1) := by decide +kernel
theorem d_Y_fuseNarrow_1 : decode prog_4_method_27_code 1 = .ok (.iload_n 1, 1) := by decide +kernel
theorem d_Y_fuseNarrow_2 : decode prog_4_method_27_code 2 = .ok (.iload_n 2, 1) := by decide +kernel
theorem d_Y_fuseNarrow_3 : decode prog_4_method_27_code 3 = .ok (.iload_n 3, 1) := by decide +kernel
theorem d_Y_fuseNarrow_4 : decode prog_4_method_27_code 4 = .ok (.iconst 1, 1) := by decide +kernel
theorem d_Y_fuseNarrow_5 : decode prog_4_method_27_code 5 = .ok (.invokevirtual 112, 3) := by decide +kernel
theorem d_Y_fuseNarrow_8 : decode prog_4_method_27_code 8 = .ok (.ifCond .ne 20, 3) := by decide +kernel
theorem d_Y_fuseNarrow_11 : decode prog_4_method_27_code 11 = .ok (.iload 4, 2) := by decide +kernel
theorem d_Y_fuseNarrow_13 : decode prog_4_method_27_code 13 = .ok (.invokestatic 101, 3) := by decide +kernel
theorem d_Y_fuseNarrow_16 : decode prog_4_method_27_code 16 = .ok (.ifCond .ne 12, 3) := by decide +kernel
theorem d_Y_fuseNarrow_19 : decode prog_4_method_27_code 19 = .ok (.aload_n 0, 1) := by decide +kernel
theorem d_Y_fuseNarrow_20 : decode prog_4_method_27_code 20 = .ok (.iload 4, 2) := by decide +kernel
theorem d_Y_fuseNarrow_22 : decode prog_4_method_27_code 22 = .ok (.invokevirtual 109, 3) := by decide +kernel
theorem d_Y_fuseNarrow_25 : decode prog_4_method_27_code 25 = .ok (.ifCond .ne 7, 3) := by decide +kernel
theorem d_Y_fuseNarrow_28 : decode prog_4_method_27_code 28 = .ok (.iconst (-1), 1) := by decide +kernel
theorem d_Y_fuseNarrow_29 : decode prog_4_method_27_code 29 = .ok (.goto 14, 3) := by decide +kernel
theorem d_Y_fuseNarrow_32 : decode prog_4_method_27_code 32 = .ok (.aload_n 0, 1) := by decide +kernel
theorem d_Y_fuseNarrow_33 : decode prog_4_method_27_code 33 = .ok (.iload_n 1, 1) := by decide +kernel
theorem d_Y_fuseNarrow_34 : decode prog_4_method_27_code 34 = .ok (.iload_n 2, 1) := by decide +kernel
theorem d_Y_fuseNarrow_35 : decode prog_4_method_27_code 35 = .ok (.iload_n 3, 1) := by decide +kernel
theorem d_Y_fuseNarrow_36 : decode prog_4_method_27_code 36 = .ok (.iload 4, 2) := by decide +kernel
theorem d_Y_fuseNarrow_38 : decode prog_4_method_27_code 38 = .ok (.bipush 24, 2) := by decide +kernel
theorem d_Y_fuseNarrow_40 : decode prog_4_method_27_code 40 = .ok (.invokevirtual 136, 3) := by decide +kernel
theorem d_Y_fuseNarrow_43 : decode prog_4_method_27_code 43 = .ok (.ireturn, 1) := by decide +kernel
theorem d_Y_divide_0 : decode prog_4_method_28_code 0 = .ok (.aload_n 0, 1) := by decide +kernel
theorem d_Y_divide_1 : decode prog_4_method_28_code 1 = .ok (.iload_n 1, 1) := by decide +kernel
theorem d_Y_divide_2 : decode prog_4_method_28_code 2 = .ok (.iload_n 2, 1) := by decide +kernel
theorem d_Y_divide_3 : decode prog_4_method_28_code 3 = .ok (.iload_n 3, 1) := by decide +kernel
theorem d_Y_divide_4 : decode prog_4_method_28_code 4 = .ok (.iload 4, 2) := by decide +kernel
theorem d_Y_divide_6 : decode prog_4_method_28_code 6 = .ok (.invokevirtual 112, 3) := by decide +kernel
theorem d_Y_divide_9 : decode prog_4_method_28_code 9 = .ok (.ifCond .ne 14, 3) := by decide +kernel
theorem d_Y_divide_12 : decode prog_4_method_28_code 12 = .ok (.aload_n 0, 1) := by decide +kernel
theorem d_Y_divide_13 : decode prog_4_method_28_code 13 = .ok (.getfield 7, 3) := by decide +kernel
theorem d_Y_divide_16 : decode prog_4_method_28_code 16 = .ok (.iload_n 3, 1) := by decide +kernel
theorem d_Y_divide_17 : decode prog_4_method_28_code 17 = .ok (.laload, 1) := by decide +kernel
theorem d_Y_divide_18 : decode prog_4_method_28_code 18 = .ok (.lconst 0, 1) := by decide +kernel
theorem d_Y_divide_19 : decode prog_4_method_28_code 19 = .ok (.lcmp, 1) := by decide +kernel
theorem d_Y_divide_20 : decode prog_4_method_28_code 20 = .ok (.ifCond .ne 5, 3) := by decide +kernel
theorem d_Y_divide_23 : decode prog_4_method_28_code 23 = .ok (.iconst (-1), 1) := by decide +kernel
theorem d_Y_divide_24 : decode prog_4_method_28_code 24 = .ok (.ireturn, 1) := by decide +kernel
theorem d_Y_divide_25 : decode prog_4_method_28_code 25 = .ok (.lconst 0, 1) := by decide +kernel
theorem d_Y_divide_26 : decode prog_4_method_28_code 26 = .ok (.lstore 5, 2) := by decide +kernel
theorem d_Y_divide_28 : decode prog_4_method_28_code 28 = .ok (.aload_n 0, 1) := by decide +kernel
theorem d_Y_divide_29 : decode prog_4_method_28_code 29 = .ok (.lconst 0, 1) := by decide +kernel
theorem d_Y_divide_30 : decode prog_4_method_28_code 30 = .ok (.putfield 57, 3) := by decide +kernel
theorem d_Y_divide_33 : decode prog_4_method_28_code 33 = .ok (.iconst 0, 1) := by decide +kernel
theorem d_Y_divide_34 : decode prog_4_method_28_code 34 = .ok (.istore 7, 2) := by decide +kernel
theorem d_Y_divide_36 : decode prog_4_method_28_code 36 = .ok (.bipush 53, 2) := by decide +kernel
theorem d_Y_divide_38 : decode prog_4_method_28_code 38 = .ok (.istore 8, 2) := by decide +kernel
theorem d_Y_divide_40 : decode prog_4_method_28_code 40 = .ok (.aload_n 0, 1) := by decide +kernel
theorem d_Y_divide_41 : decode prog_4_method_28_code 41 = .ok (.getfield 7, 3) := by decide +kernel
theorem d_Y_divide_44 : decode prog_4_method_28_code 44 = .ok (.iload_n 2, 1) := by decide +kernel
theorem d_Y_divide_45 : decode prog_4_method_28_code 45 = .ok (.laload, 1) := by decide +kernel
theorem d_Y_divide_46 : decode prog_4_method_28_code 46 = .ok (.lconst 0, 1) := by decide +kernel
theorem d_Y_divide_47 : decode prog_4_method_28_code 47 = .ok (.lcmp, 1) := by decide +kernel
theorem d_Y_divide_48 : decode prog_4_method_28_code 48 = .ok (.ifCond .le 117, 3) := by decide +kernel
theorem d_Y_divide_51 : decode prog_4_method_28_code 51 = .ok (.iload 7, 2) := by decide +kernel
theorem d_Y_divide_53 : decode prog_4_method_28_code 53 = .ok (.bipush 60, 2) := by decide +kernel
theorem d_Y_divide_55 : decode prog_4_method_28_code 55 = .ok (.if_icmp .ge 110, 3) := by decide +kernel
theorem d_Y_divide_58 : decode prog_4_method_28_code 58 = .ok (.iinc 8 (-1), 3) := by decide +kernel
theorem d_Y_divide_61 : decode prog_4_method_28_code 61 = .ok (.ldc2_w 37, 3) := by decide +kernel
theorem d_Y_divide_64 : decode prog_4_method_28_code 64 = .ok (.lload 5, 2) := by decide +kernel
theorem d_Y_divide_66 : decode prog_4_method_28_code 66 = .ok (.lmul, 1) := by decide +kernel
theorem d_Y_divide_67 : decode prog_4_method_28_code 67 = .ok (.iload 8, 2) := by decide +kernel
theorem d_Y_divide_69 : decode prog_4_method_28_code 69 = .ok (.ifCond .lt 17, 3) := by decide +kernel
theorem d_Y_divide_72 : decode prog_4_method_28_code 72 = .ok (.aload_n 0, 1) := by decide +kernel
theorem d_Y_divide_73 : decode prog_4_method_28_code 73 = .ok (.getfield 7, 3) := by decide +kernel
theorem d_Y_divide_76 : decode prog_4_method_28_code 76 = .ok (.iload_n 2, 1) := by decide +kernel
theorem d_Y_divide_77 : decode prog_4_method_28_code 77 = .ok (.laload, 1) := by decide +kernel
theorem d_Y_divide_78 : decode prog_4_method_28_code 78 = .ok (.iload 8, 2) := by decide +kernel
theorem d_Y_divide_80 : decode prog_4_method_28_code 80 = .ok (.lshr, 1) := by decide +kernel
theorem d_Y_divide_81 : decode prog_4_method_28_code 81 = .ok (.lconst 1, 1) := by decide +kernel
theorem d_Y_divide_82 : decode prog_4_method_28_code 82 = .ok (.land, 1) := by decide +kernel
theorem d_Y_divide_83 : decode prog_4_method_28_code 83 = .ok (.goto 4, 3) := by decide +kernel
theorem d_Y_divide_86 : decode prog_4_method_28_code 86 = .ok (.lconst 0, 1) := by decide +kernel
theorem d_Y_divide_87 : decode prog_4_method_28_code 87 = .ok (.ladd, 1) := by decide +kernel
theorem d_Y_divide_88 : decode prog_4_method_28_code 88 = .ok (.lstore 5, 2) := by decide +kernel
theorem d_Y_divide_90 : decode prog_4_method_28_code 90 = .ok (.lload 5, 2) := by decide +kernel
theorem d_Y_divide_92 : decode prog_4_method_28_code 92 = .ok (.aload_n 0, 1) := by decide +kernel
theorem d_Y_divide_93 : decode prog_4_method_28_code 93 = .ok (.getfield 7, 3) := by decide +kernel
theorem d_Y_divide_96 : decode prog_4_method_28_code 96 = .ok (.iload_n 3, 1) := by decide +kernel
theorem d_Y_divide_97 : decode prog_4_method_28_code 97 = .ok (.laload, 1) := by decide +kernel
theorem d_Y_divide_98 : decode prog_4_method_28_code 98 = .ok (.lcmp, 1) := by decide +kernel
theorem d_Y_divide_99 : decode prog_4_method_28_code 99 = .ok (.ifCond .lt 7, 3) := by decide +kernel
theorem d_Y_divide_102 : decode prog_4_method_28_code 102 = .ok (.iconst 1, 1) := by decide +kernel
theorem d_Y_divide_103 : decode prog_4_method_28_code 103 = .ok (.goto 4, 3) := by decide +kernel
theorem d_Y_divide_106 : decode prog_4_method_28_code 106 = .ok (.iconst 0, 1) := by decide +kernel
theorem d_Y_divide_107 : decode prog_4_method_28_code 107 = .ok (.istore 9, 2) := by decide +kernel
theorem d_Y_divide_109 : decode prog_4_method_28_code 109 = .ok (.iload 9, 2) := by decide +kernel
theorem d_Y_divide_111 : decode prog_4_method_28_code 111 = .ok (.ifCond .eq 14, 3) := by decide +kernel
theorem d_Y_divide_114 : decode prog_4_method_28_code 114 = .ok (.lload 5, 2) := by decide +kernel
theorem d_Y_divide_116 : decode prog_4_method_28_code 116 = .ok (.aload_n 0, 1) := by decide +kernel
theorem d_Y_divide_117 : decode prog_4_method_28_code 117 = .ok (.getfield 7, 3) := by decide +kernel
theorem d_Y_divide_120 : decode prog_4_method_28_code 120 = .ok (.iload_n 3, 1) := by decide +kernel
theorem d_Y_divide_121 : decode prog_4_method_28_code 121 = .ok (.laload, 1) := by decide +kernel
theorem d_Y_divide_122 : decode prog_4_method_28_code 122 = .ok (.lsub, 1) := by decide +kernel
theorem d_Y_divide_123 : decode prog_4_method_28_code 123 = .ok (.lstore 5, 2) := by decide +kernel
theorem d_Y_divide_125 : decode prog_4_method_28_code 125 = .ok (.aload_n 0, 1) := by decide +kernel
theorem d_Y_divide_126 : decode prog_4_method_28_code 126 = .ok (.ldc2_w 37, 3) := by decide +kernel
theorem d_Y_divide_129 : decode prog_4_method_28_code 129 = .ok (.aload_n 0, 1) := by decide +kernel
theorem d_Y_divide_130 : decode prog_4_method_28_code 130 = .ok (.getfield 57, 3) := by decide +kernel
theorem d_Y_divide_133 : decode prog_4_method_28_code 133 = .ok (.lmul, 1) := by decide +kernel
theorem d_Y_divide_134 : decode prog_4_method_28_code 134 = .ok (.iload 9, 2) := by decide +kernel
theorem d_Y_divide_136 : decode prog_4_method_28_code 136 = .ok (.ifCond .eq 7, 3) := by decide +kernel
theorem d_Y_divide_139 : decode prog_4_method_28_code 139 = .ok (.iconst 1, 1) := by decide +kernel
theorem d_Y_divide_140 : decode prog_4_method_28_code 140 = .ok (.goto 4, 3) := by decide +kernel
theorem d_Y_divide_143 : decode prog_4_method_28_code 143 = .ok (.iconst 0, 1) := by decide +kernel
theorem d_Y_divide_144 : decode prog_4_method_28_code 144 = .ok (.i2l, 1) := by decide +kernel
theorem d_Y_divide_145 : decode prog_4_method_28_code 145 = .ok (.ladd, 1) := by decide +kernel
theorem d_Y_divide_146 : decode prog_4_method_28_code 146 = .ok (.putfield 57, 3) := by decide +kernel
theorem d_Y_divide_149 : decode prog_4_method_28_code 149 = .ok (.iload 7, 2) := by decide +kernel
theorem d_Y_divide_151 : decode prog_4_method_28_code 151 = .ok (.ifCond .gt 8, 3) := by decide +kernel
theorem d_Y_divide_154 : decode prog_4_method_28_code 154 = .ok (.iload 9, 2) := by decide +kernel
theorem d_Y_divide_156 : decode prog_4_method_28_code 156 = .ok (.ifCond .eq 6, 3) := by decide +kernel
theorem d_Y_divide_159 : decode prog_4_method_28_code 159 = .ok (.iinc 7 1, 3) := by decide +kernel
theorem d_Y_divide_162 : decode prog_4_method_28_code 162 = .ok (.goto (-122), 3) := by decide +kernel
theorem d_Y_divide_165 : decode prog_4_method_28_code 165 = .ok (.aload_n 0, 1) := by decide +kernel
theorem d_Y_divide_166 : decode prog_4_method_28_code 166 = .ok (.lload 5, 2) := by decide +kernel
theorem d_Y_divide_168 : decode prog_4_method_28_code 168 = .ok (.lconst 0, 1) := by decide +kernel
theorem d_Y_divide_169 : decode prog_4_method_28_code 169 = .ok (.lcmp, 1) := by decide +kernel
theorem d_Y_divide_170 : decode prog_4_method_28_code 170 = .ok (.ifCond .gt 26, 3) := by decide +kernel
theorem d_Y_divide_173 : decode prog_4_method_28_code 173 = .ok (.iload 8, 2) := by decide +kernel
theorem d_Y_divide_175 : decode prog_4_method_28_code 175 = .ok (.ifCond .le 25, 3) := by decide +kernel
theorem d_Y_divide_178 : decode prog_4_method_28_code 178 = .ok (.aload_n 0, 1) := by decide +kernel
theorem d_Y_divide_179 : decode prog_4_method_28_code 179 = .ok (.getfield 7, 3) := by decide +kernel
theorem d_Y_divide_182 : decode prog_4_method_28_code 182 = .ok (.iload_n 2, 1) := by decide +kernel
theorem d_Y_divide_183 : decode prog_4_method_28_code 183 = .ok (.laload, 1) := by decide +kernel
theorem d_Y_divide_184 : decode prog_4_method_28_code 184 = .ok (.lconst 1, 1) := by decide +kernel
theorem d_Y_divide_185 : decode prog_4_method_28_code 185 = .ok (.iload 8, 2) := by decide +kernel
theorem d_Y_divide_187 : decode prog_4_method_28_code 187 = .ok (.lshl, 1) := by decide +kernel
theorem d_Y_divide_188 : decode prog_4_method_28_code 188 = .ok (.lconst 1, 1) := by decide +kernel
theorem d_Y_divide_189 : decode prog_4_method_28_code 189 = .ok (.lsub, 1) := by decide +kernel
theorem d_Y_divide_190 : decode prog_4_method_28_code 190 = .ok (.land, 1) := by decide +kernel
theorem d_Y_divide_191 : decode prog_4_method_28_code 191 = .ok (.lconst 0, 1) := by decide +kernel
theorem d_Y_divide_192 : decode prog_4_method_28_code 192 = .ok (.lcmp, 1) := by decide +kernel
theorem d_Y_divide_193 : decode prog_4_method_28_code 193 = .ok (.ifCond .le 7, 3) := by decide +kernel
theorem d_Y_divide_196 : decode prog_4_method_28_code 196 = .ok (.iconst 1, 1) := by decide +kernel
theorem d_Y_divide_197 : decode prog_4_method_28_code 197 = .ok (.goto 4, 3) := by decide +kernel
theorem d_Y_divide_200 : decode prog_4_method_28_code 200 = .ok (.iconst 0, 1) := by decide +kernel
theorem d_Y_divide_201 : decode prog_4_method_28_code 201 = .ok (.putfield 68, 3) := by decide +kernel
theorem d_Y_divide_204 : decode prog_4_method_28_code 204 = .ok (.aload_n 0, 1) := by decide +kernel
theorem d_Y_divide_205 : decode prog_4_method_28_code 205 = .ok (.aload_n 0, 1) := by decide +kernel
theorem d_Y_divide_206 : decode prog_4_method_28_code 206 = .ok (.getfield 13, 3) := by decide +kernel
theorem d_Y_divide_209 : decode prog_4_method_28_code 209 = .ok (.iload_n 2, 1) := by decide +kernel
theorem d_Y_divide_210 : decode prog_4_method_28_code 210 = .ok (.iaload, 1) := by decide +kernel
theorem d_Y_divide_211 : decode prog_4_method_28_code 211 = .ok (.aload_n 0, 1) := by decide +kernel
theorem d_Y_divide_212 : decode prog_4_method_28_code 212 = .ok (.getfield 13, 3) := by decide +kernel
theorem d_Y_divide_215 : decode prog_4_method_28_code 215 = .ok (.iload_n 3, 1) := by decide +kernel
theorem d_Y_divide_216 : decode prog_4_method_28_code 216 = .ok (.iaload, 1) := by decide +kernel
theorem d_Y_divide_217 : decode prog_4_method_28_code 217 = .ok (.isub, 1) := by decide +kernel
theorem d_Y_divide_218 : decode prog_4_method_28_code 218 = .ok (.iload 8, 2) := by decide +kernel
theorem d_Y_divide_220 : decode prog_4_method_28_code 220 = .ok (.iadd, 1) := by decide +kernel
theorem d_Y_divide_221 : decode prog_4_method_28_code 221 = .ok (.putfield 61, 3) := by decide +kernel
theorem d_Y_divide_224 : decode prog_4_method_28_code 224 = .ok (.aload_n 0, 1) := by decide +kernel
theorem d_Y_divide_225 : decode prog_4_method_28_code 225 = .ok (.iload_n 1, 1) := by decide +kernel
theorem d_Y_divide_226 : decode prog_4_method_28_code 226 = .ok (.aload_n 0, 1) := by decide +kernel
theorem d_Y_divide_227 : decode prog_4_method_28_code 227 = .ok (.getfield 17, 3) := by decide +kernel
theorem d_Y_divide_230 : decode prog_4_method_28_code 230 = .ok (.iload_n 2, 1) := by decide +kernel
theorem d_Y_divide_231 : decode prog_4_method_28_code 231 = .ok (.baload, 1) := by decide +kernel
theorem d_Y_divide_232 : decode prog_4_method_28_code 232 = .ok (.aload_n 0, 1) := by decide +kernel
theorem d_Y_divide_233 : decode prog_4_method_28_code 233 = .ok (.getfield 17, 3) := by decide +kernel
theorem d_Y_divide_236 : decode prog_4_method_28_code 236 = .ok (.iload_n 3, 1) := by decide +kernel
theorem d_Y_divide_237 : decode prog_4_method_28_code 237 = .ok (.baload, 1) := by decide +kernel
theorem d_Y_divide_238 : decode prog_4_method_28_code 238 = .ok (.if_icmp .eq 7, 3) := by decide +kernel
theorem d_Y_divide_241 : decode prog_4_method_28_code 241 = .ok (.iconst 1, 1) := by decide +kernel
theorem d_Y_divide_242 : decode prog_4_method_28_code 242 = .ok (.goto 4, 3) := by decide +kernel
theorem d_Y_divide_245 : decode prog_4_method_28_code 245 = .ok (.iconst 0, 1) := by decide +kernel
theorem d_Y_divide_246 : decode prog_4_method_28_code 246 = .ok (.iload 4, 2) := by decide +kernel
theorem d_Y_divide_248 : decode prog_4_method_28_code 248 = .ok (.invokestatic 120, 3) := by decide +kernel
theorem d_Y_divide_251 : decode prog_4_method_28_code 251 = .ok (.invokevirtual 97, 3) := by decide +kernel
theorem d_Y_divide_254 : decode prog_4_method_28_code 254 = .ok (.ireturn, 1) := by decide +kernel
theorem d_Y_root_0 : decode prog_4_method_29_code 0 = .ok (.iload_n 1, 1) := by decide +kernel
theorem d_Y_root_1 : decode prog_4_method_29_code 1 = .ok (.invokestatic 101, 3) := by decide +kernel
theorem d_Y_root_4 : decode prog_4_method_29_code 4 = .ok (.ifCond .ne 31, 3) := by decide +kernel
theorem d_Y_root_7 : decode prog_4_method_29_code 7 = .ok (.iload_n 2, 1) := by decide +kernel
theorem d_Y_root_8 : decode prog_4_method_29_code 8 = .ok (.invokestatic 101, 3) := by decide +kernel
theorem d_Y_root_11 : decode prog_4_method_29_code 11 = .ok (.ifCond .ne 24, 3) := by decide +kernel
theorem d_Y_root_14 : decode prog_4_method_29_code 14 = .ok (.aload_n 0, 1) := by decide +kernel
theorem d_Y_root_15 : decode prog_4_method_29_code 15 = .ok (.getfield 17, 3) := by decide +kernel
theorem d_Y_root_18 : decode prog_4_method_29_code 18 = .ok (.iload_n 2, 1) := by decide +kernel
theorem d_Y_root_19 : decode prog_4_method_29_code 19 = .ok (.baload, 1) := by decide +kernel
theorem d_Y_root_20 : decode prog_4_method_29_code 20 = .ok (.ifCond .ne 15, 3) := by decide +kernel
theorem d_Y_root_23 : decode prog_4_method_29_code 23 = .ok (.iload_n 3, 1) := by decide +kernel
theorem d_Y_root_24 : decode prog_4_method_29_code 24 = .ok (.ifCond .eq 13, 3) := by decide +kernel
theorem d_Y_root_27 : decode prog_4_method_29_code 27 = .ok (.aload_n 0, 1) := by decide +kernel
theorem d_Y_root_28 : decode prog_4_method_29_code 28 = .ok (.iload_n 2, 1) := by decide +kernel
theorem d_Y_root_29 : decode prog_4_method_29_code 29 = .ok (.invokevirtual 109, 3) := by decide +kernel
theorem d_Y_root_32 : decode prog_4_method_29_code 32 = .ok (.ifCond .ne 5, 3) := by decide +kernel
theorem d_Y_root_35 : decode prog_4_method_29_code 35 = .ok (.iconst (-1), 1) := by decide +kernel
theorem d_Y_root_36 : decode prog_4_method_29_code 36 = .ok (.ireturn, 1) := by decide +kernel
theorem d_Y_root_37 : decode prog_4_method_29_code 37 = .ok (.aload_n 0, 1) := by decide +kernel
theorem d_Y_root_38 : decode prog_4_method_29_code 38 = .ok (.getfield 13, 3) := by decide +kernel
theorem d_Y_root_41 : decode prog_4_method_29_code 41 = .ok (.iload_n 2, 1) := by decide +kernel
theorem d_Y_root_42 : decode prog_4_method_29_code 42 = .ok (.iaload, 1) := by decide +kernel
theorem d_Y_root_43 : decode prog_4_method_29_code 43 = .ok (.iconst 2, 1) := by decide +kernel
theorem d_Y_root_44 : decode prog_4_method_29_code 44 = .ok (.irem, 1) := by decide +kernel
theorem d_Y_root_45 : decode prog_4_method_29_code 45 = .ok (.ifCond .ne 12, 3) := by decide +kernel
theorem d_Y_root_48 : decode prog_4_method_29_code 48 = .ok (.aload_n 0, 1) := by decide +kernel
theorem d_Y_root_49 : decode prog_4_method_29_code 49 = .ok (.getfield 7, 3) := by decide +kernel
theorem d_Y_root_52 : decode prog_4_method_29_code 52 = .ok (.iload_n 2, 1) := by decide +kernel
theorem d_Y_root_53 : decode prog_4_method_29_code 53 = .ok (.laload, 1) := by decide +kernel
theorem d_Y_root_54 : decode prog_4_method_29_code 54 = .ok (.goto 13, 3) := by decide +kernel
theorem d_Y_root_57 : decode prog_4_method_29_code 57 = .ok (.ldc2_w 37, 3) := by decide +kernel
theorem d_Y_root_60 : decode prog_4_method_29_code 60 = .ok (.aload_n 0, 1) := by decide +kernel
theorem d_Y_root_61 : decode prog_4_method_29_code 61 = .ok (.getfield 7, 3) := by decide +kernel
theorem d_Y_root_64 : decode prog_4_method_29_code 64 = .ok (.iload_n 2, 1) := by decide +kernel
theorem d_Y_root_65 : decode prog_4_method_29_code 65 = .ok (.laload, 1) := by decide +kernel
theorem d_Y_root_66 : decode prog_4_method_29_code 66 = .ok (.lmul, 1) := by decide +kernel
theorem d_Y_root_67 : decode prog_4_method_29_code 67 = .ok (.lstore 4, 2) := by decide +kernel
theorem d_Y_root_69 : decode prog_4_method_29_code 69 = .ok (.aload_n 0, 1) := by decide +kernel
theorem d_Y_root_70 : decode prog_4_method_29_code 70 = .ok (.getfield 13, 3) := by decide +kernel
theorem d_Y_root_73 : decode prog_4_method_29_code 73 = .ok (.iload_n 2, 1) := by decide +kernel
theorem d_Y_root_74 : decode prog_4_method_29_code 74 = .ok (.iaload, 1) := by decide +kernel
theorem d_Y_root_75 : decode prog_4_method_29_code 75 = .ok (.iconst 2, 1) := by decide +kernel
theorem d_Y_root_76 : decode prog_4_method_29_code 76 = .ok (.irem, 1) := by decide +kernel
theorem d_Y_root_77 : decode prog_4_method_29_code 77 = .ok (.ifCond .ne 12, 3) := by decide +kernel
theorem d_Y_root_80 : decode prog_4_method_29_code 80 = .ok (.aload_n 0, 1) := by decide +kernel
theorem d_Y_root_81 : decode prog_4_method_29_code 81 = .ok (.getfield 13, 3) := by decide +kernel
theorem d_Y_root_84 : decode prog_4_method_29_code 84 = .ok (.iload_n 2, 1) := by decide +kernel
theorem d_Y_root_85 : decode prog_4_method_29_code 85 = .ok (.iaload, 1) := by decide +kernel
theorem d_Y_root_86 : decode prog_4_method_29_code 86 = .ok (.goto 11, 3) := by decide +kernel
theorem d_Y_root_89 : decode prog_4_method_29_code 89 = .ok (.aload_n 0, 1) := by decide +kernel
theorem d_Y_root_90 : decode prog_4_method_29_code 90 = .ok (.getfield 13, 3) := by decide +kernel
theorem d_Y_root_93 : decode prog_4_method_29_code 93 = .ok (.iload_n 2, 1) := by decide +kernel
theorem d_Y_root_94 : decode prog_4_method_29_code 94 = .ok (.iaload, 1) := by decide +kernel
theorem d_Y_root_95 : decode prog_4_method_29_code 95 = .ok (.iconst 1, 1) := by decide +kernel
theorem d_Y_root_96 : decode prog_4_method_29_code 96 = .ok (.isub, 1) := by decide +kernel
theorem d_Y_root_97 : decode prog_4_method_29_code 97 = .ok (.istore 6, 2) := by decide +kernel
theorem d_Y_root_99 : decode prog_4_method_29_code 99 = .ok (.lconst 0, 1) := by decide +kernel
theorem d_Y_root_100 : decode prog_4_method_29_code 100 = .ok (.lstore 7, 2) := by decide +kernel
theorem d_Y_root_102 : decode prog_4_method_29_code 102 = .ok (.aload_n 0, 1) := by decide +kernel
theorem d_Y_root_103 : decode prog_4_method_29_code 103 = .ok (.lconst 0, 1) := by decide +kernel
theorem d_Y_root_104 : decode prog_4_method_29_code 104 = .ok (.putfield 57, 3) := by decide +kernel
theorem d_Y_root_107 : decode prog_4_method_29_code 107 = .ok (.iconst 0, 1) := by decide +kernel
theorem d_Y_root_108 : decode prog_4_method_29_code 108 = .ok (.istore 9, 2) := by decide +kernel
theorem d_Y_root_110 : decode prog_4_method_29_code 110 = .ok (.bipush 27, 2) := by decide +kernel
theorem d_Y_root_112 : decode prog_4_method_29_code 112 = .ok (.istore 10, 2) := by decide +kernel
theorem d_Y_root_114 : decode prog_4_method_29_code 114 = .ok (.lload 4, 2) := by decide +kernel
theorem d_Y_root_116 : decode prog_4_method_29_code 116 = .ok (.lconst 0, 1) := by decide +kernel
theorem d_Y_root_117 : decode prog_4_method_29_code 117 = .ok (.lcmp, 1) := by decide +kernel
theorem d_Y_root_118 : decode prog_4_method_29_code 118 = .ok (.ifCond .le 121, 3) := by decide +kernel
theorem d_Y_root_121 : decode prog_4_method_29_code 121 = .ok (.iload 9, 2) := by decide +kernel
theorem d_Y_root_123 : decode prog_4_method_29_code 123 = .ok (.bipush 58, 2) := by decide +kernel
theorem d_Y_root_125 : decode prog_4_method_29_code 125 = .ok (.if_icmp .ge 114, 3) := by decide +kernel
theorem d_Y_root_128 : decode prog_4_method_29_code 128 = .ok (.iinc 10 (-1), 3) := by decide +kernel
theorem d_Y_root_131 : decode prog_4_method_29_code 131 = .ok (.ldc2_w 140, 3) := by decide +kernel
theorem d_Y_root_134 : decode prog_4_method_29_code 134 = .ok (.lload 7, 2) := by decide +kernel
theorem d_Y_root_136 : decode prog_4_method_29_code 136 = .ok (.lmul, 1) := by decide +kernel
theorem d_Y_root_137 : decode prog_4_method_29_code 137 = .ok (.iload 10, 2) := by decide +kernel
theorem d_Y_root_139 : decode prog_4_method_29_code 139 = .ok (.ifCond .lt 17, 3) := by decide +kernel
theorem d_Y_root_142 : decode prog_4_method_29_code 142 = .ok (.lload 4, 2) := by decide +kernel
theorem d_Y_root_144 : decode prog_4_method_29_code 144 = .ok (.iconst 2, 1) := by decide +kernel
theorem d_Y_root_145 : decode prog_4_method_29_code 145 = .ok (.iload 10, 2) := by decide +kernel
theorem d_Y_root_147 : decode prog_4_method_29_code 147 = .ok (.imul, 1) := by decide +kernel
theorem d_Y_root_148 : decode prog_4_method_29_code 148 = .ok (.lshr, 1) := by decide +kernel
theorem d_Y_root_149 : decode prog_4_method_29_code 149 = .ok (.ldc2_w 142, 3) := by decide +kernel
theorem d_Y_root_152 : decode prog_4_method_29_code 152 = .ok (.land, 1) := by decide +kernel
theorem d_Y_root_153 : decode prog_4_method_29_code 153 = .ok (.goto 4, 3) := by decide +kernel
theorem d_Y_root_156 : decode prog_4_method_29_code 156 = .ok (.lconst 0, 1) := by decide +kernel
theorem d_Y_root_157 : decode prog_4_method_29_code 157 = .ok (.ladd, 1) := by decide +kernel
theorem d_Y_root_158 : decode prog_4_method_29_code 158 = .ok (.lstore 7, 2) := by decide +kernel
theorem d_Y_root_160 : decode prog_4_method_29_code 160 = .ok (.ldc2_w 140, 3) := by decide +kernel
theorem d_Y_root_163 : decode prog_4_method_29_code 163 = .ok (.aload_n 0, 1) := by decide +kernel
theorem d_Y_root_164 : decode prog_4_method_29_code 164 = .ok (.getfield 57, 3) := by decide +kernel
theorem d_Y_root_167 : decode prog_4_method_29_code 167 = .ok (.lmul, 1) := by decide +kernel
theorem d_Y_root_168 : decode prog_4_method_29_code 168 = .ok (.lconst 1, 1) := by decide +kernel
theorem d_Y_root_169 : decode prog_4_method_29_code 169 = .ok (.ladd, 1) := by decide +kernel
theorem d_Y_root_170 : decode prog_4_method_29_code 170 = .ok (.lstore 11, 2) := by decide +kernel
theorem d_Y_root_172 : decode prog_4_method_29_code 172 = .ok (.lload 7, 2) := by decide +kernel
theorem d_Y_root_174 : decode prog_4_method_29_code 174 = .ok (.lload 11, 2) := by decide +kernel
theorem d_Y_root_176 : decode prog_4_method_29_code 176 = .ok (.lcmp, 1) := by decide +kernel
theorem d_Y_root_177 : decode prog_4_method_29_code 177 = .ok (.ifCond .lt 7, 3) := by decide +kernel
theorem d_Y_root_180 : decode prog_4_method_29_code 180 = .ok (.iconst 1, 1) := by decide +kernel
theorem d_Y_root_181 : decode prog_4_method_29_code 181 = .ok (.goto 4, 3) := by decide +kernel
theorem d_Y_root_184 : decode prog_4_method_29_code 184 = .ok (.iconst 0, 1) := by decide +kernel
theorem d_Y_root_185 : decode prog_4_method_29_code 185 = .ok (.istore 13, 2) := by decide +kernel
theorem d_Y_root_187 : decode prog_4_method_29_code 187 = .ok (.iload 13, 2) := by decide +kernel
theorem d_Y_root_189 : decode prog_4_method_29_code 189 = .ok (.ifCond .eq 10, 3) := by decide +kernel
theorem d_Y_root_192 : decode prog_4_method_29_code 192 = .ok (.lload 7, 2) := by decide +kernel
theorem d_Y_root_194 : decode prog_4_method_29_code 194 = .ok (.lload 11, 2) := by decide +kernel
theorem d_Y_root_196 : decode prog_4_method_29_code 196 = .ok (.lsub, 1) := by decide +kernel
theorem d_Y_root_197 : decode prog_4_method_29_code 197 = .ok (.lstore 7, 2) := by decide +kernel
theorem d_Y_root_199 : decode prog_4_method_29_code 199 = .ok (.aload_n 0, 1) := by decide +kernel
theorem d_Y_root_200 : decode prog_4_method_29_code 200 = .ok (.ldc2_w 37, 3) := by decide +kernel
theorem d_Y_root_203 : decode prog_4_method_29_code 203 = .ok (.aload_n 0, 1) := by decide +kernel
theorem d_Y_root_204 : decode prog_4_method_29_code 204 = .ok (.getfield 57, 3) := by decide +kernel
theorem d_Y_root_207 : decode prog_4_method_29_code 207 = .ok (.lmul, 1) := by decide +kernel
theorem d_Y_root_208 : decode prog_4_method_29_code 208 = .ok (.iload 13, 2) := by decide +kernel
theorem d_Y_root_210 : decode prog_4_method_29_code 210 = .ok (.ifCond .eq 7, 3) := by decide +kernel
theorem d_Y_root_213 : decode prog_4_method_29_code 213 = .ok (.iconst 1, 1) := by decide +kernel
theorem d_Y_root_214 : decode prog_4_method_29_code 214 = .ok (.goto 4, 3) := by decide +kernel
theorem d_Y_root_217 : decode prog_4_method_29_code 217 = .ok (.iconst 0, 1) := by decide +kernel
theorem d_Y_root_218 : decode prog_4_method_29_code 218 = .ok (.i2l, 1) := by decide +kernel
theorem d_Y_root_219 : decode prog_4_method_29_code 219 = .ok (.ladd, 1) := by decide +kernel
theorem d_Y_root_220 : decode prog_4_method_29_code 220 = .ok (.putfield 57, 3) := by decide +kernel
theorem d_Y_root_223 : decode prog_4_method_29_code 223 = .ok (.iload 9, 2) := by decide +kernel
theorem d_Y_root_225 : decode prog_4_method_29_code 225 = .ok (.ifCond .gt 8, 3) := by decide +kernel
theorem d_Y_root_228 : decode prog_4_method_29_code 228 = .ok (.iload 13, 2) := by decide +kernel
theorem d_Y_root_230 : decode prog_4_method_29_code 230 = .ok (.ifCond .eq 6, 3) := by decide +kernel
theorem d_Y_root_233 : decode prog_4_method_29_code 233 = .ok (.iinc 9 1, 3) := by decide +kernel
theorem d_Y_root_236 : decode prog_4_method_29_code 236 = .ok (.goto (-122), 3) := by decide +kernel
theorem d_Y_root_239 : decode prog_4_method_29_code 239 = .ok (.aload_n 0, 1) := by decide +kernel
theorem d_Y_root_240 : decode prog_4_method_29_code 240 = .ok (.lload 7, 2) := by decide +kernel
theorem d_Y_root_242 : decode prog_4_method_29_code 242 = .ok (.lconst 0, 1) := by decide +kernel
theorem d_Y_root_243 : decode prog_4_method_29_code 243 = .ok (.lcmp, 1) := by decide +kernel
theorem d_Y_root_244 : decode prog_4_method_29_code 244 = .ok (.ifCond .le 7, 3) := by decide +kernel
theorem d_Y_root_247 : decode prog_4_method_29_code 247 = .ok (.iconst 1, 1) := by decide +kernel
theorem d_Y_root_248 : decode prog_4_method_29_code 248 = .ok (.goto 4, 3) := by decide +kernel
theorem d_Y_root_251 : decode prog_4_method_29_code 251 = .ok (.iconst 0, 1) := by decide +kernel
theorem d_Y_root_252 : decode prog_4_method_29_code 252 = .ok (.putfield 68, 3) := by decide +kernel
theorem d_Y_root_255 : decode prog_4_method_29_code 255 = .ok (.aload_n 0, 1) := by decide +kernel
theorem d_Y_root_256 : decode prog_4_method_29_code 256 = .ok (.iload 6, 2) := by decide +kernel
theorem d_Y_root_258 : decode prog_4_method_29_code 258 = .ok (.iconst 2, 1) := by decide +kernel
theorem d_Y_root_259 : decode prog_4_method_29_code 259 = .ok (.idiv, 1) := by decide +kernel
theorem d_Y_root_260 : decode prog_4_method_29_code 260 = .ok (.iload 10, 2) := by decide +kernel
theorem d_Y_root_262 : decode prog_4_method_29_code 262 = .ok (.iadd, 1) := by decide +kernel
theorem d_Y_root_263 : decode prog_4_method_29_code 263 = .ok (.putfield 61, 3) := by decide +kernel
theorem d_Y_root_266 : decode prog_4_method_29_code 266 = .ok (.aload_n 0, 1) := by decide +kernel
theorem d_Y_root_267 : decode prog_4_method_29_code 267 = .ok (.iload_n 1, 1) := by decide +kernel
theorem d_Y_root_268 : decode prog_4_method_29_code 268 = .ok (.iconst 0, 1) := by decide +kernel
theorem d_Y_root_269 : decode prog_4_method_29_code 269 = .ok (.iload_n 3, 1) := by decide +kernel
theorem d_Y_root_270 : decode prog_4_method_29_code 270 = .ok (.invokestatic 120, 3) := by decide +kernel
theorem d_Y_root_273 : decode prog_4_method_29_code 273 = .ok (.invokevirtual 97, 3) := by decide +kernel
theorem d_Y_root_276 : decode prog_4_method_29_code 276 = .ok (.ireturn, 1) := by decide +kernel
theorem d_Y_compareSizes_0 : decode prog_4_method_30_code 0 = .ok (.aload_n 0, 1) := by decide +kernel
theorem d_Y_compareSizes_1 : decode prog_4_method_30_code 1 = .ok (.getfield 7, 3) := by decide +kernel
theorem d_Y_compareSizes_4 : decode prog_4_method_30_code 4 = .ok (.iload_n 1, 1) := by decide +kernel
theorem d_Y_compareSizes_5 : decode prog_4_method_30_code 5 = .ok (.laload, 1) := by decide +kernel
theorem d_Y_compareSizes_6 : decode prog_4_method_30_code 6 = .ok (.lstore 4, 2) := by decide +kernel
theorem d_Y_compareSizes_8 : decode prog_4_method_30_code 8 = .ok (.aload_n 0, 1) := by decide +kernel
theorem d_Y_compareSizes_9 : decode prog_4_method_30_code 9 = .ok (.getfield 7, 3) := by decide +kernel
theorem d_Y_compareSizes_12 : decode prog_4_method_30_code 12 = .ok (.iload_n 2, 1) := by decide +kernel
theorem d_Y_compareSizes_13 : decode prog_4_method_30_code 13 = .ok (.laload, 1) := by decide +kernel
theorem d_Y_compareSizes_14 : decode prog_4_method_30_code 14 = .ok (.lstore 6, 2) := by decide +kernel
theorem d_Y_compareSizes_16 : decode prog_4_method_30_code 16 = .ok (.lload 4, 2) := by decide +kernel
theorem d_Y_compareSizes_18 : decode prog_4_method_30_code 18 = .ok (.lconst 0, 1) := by decide +kernel
theorem d_Y_compareSizes_19 : decode prog_4_method_30_code 19 = .ok (.lcmp, 1) := by decide +kernel
theorem d_Y_compareSizes_20 : decode prog_4_method_30_code 20 = .ok (.ifCond .eq 10, 3) := by decide +kernel
theorem d_Y_compareSizes_23 : decode prog_4_method_30_code 23 = .ok (.lload 6, 2) := by decide +kernel
theorem d_Y_compareSizes_25 : decode prog_4_method_30_code 25 = .ok (.lconst 0, 1) := by decide +kernel
theorem d_Y_compareSizes_26 : decode prog_4_method_30_code 26 = .ok (.lcmp, 1) := by decide +kernel
theorem d_Y_compareSizes_27 : decode prog_4_method_30_code 27 = .ok (.ifCond .ne 27, 3) := by decide +kernel
theorem d_Y_compareSizes_30 : decode prog_4_method_30_code 30 = .ok (.lload 4, 2) := by decide +kernel
theorem d_Y_compareSizes_32 : decode prog_4_method_30_code 32 = .ok (.lconst 0, 1) := by decide +kernel
theorem d_Y_compareSizes_33 : decode prog_4_method_30_code 33 = .ok (.lcmp, 1) := by decide +kernel
theorem d_Y_compareSizes_34 : decode prog_4_method_30_code 34 = .ok (.ifCond .le 7, 3) := by decide +kernel
theorem d_Y_compareSizes_37 : decode prog_4_method_30_code 37 = .ok (.iconst 1, 1) := by decide +kernel
theorem d_Y_compareSizes_38 : decode prog_4_method_30_code 38 = .ok (.goto 15, 3) := by decide +kernel
theorem d_Y_compareSizes_41 : decode prog_4_method_30_code 41 = .ok (.lload 6, 2) := by decide +kernel
theorem d_Y_compareSizes_43 : decode prog_4_method_30_code 43 = .ok (.lconst 0, 1) := by decide +kernel
theorem d_Y_compareSizes_44 : decode prog_4_method_30_code 44 = .ok (.lcmp, 1) := by decide +kernel
theorem d_Y_compareSizes_45 : decode prog_4_method_30_code 45 = .ok (.ifCond .le 7, 3) := by decide +kernel
theorem d_Y_compareSizes_48 : decode prog_4_method_30_code 48 = .ok (.iconst (-1), 1) := by decide +kernel
theorem d_Y_compareSizes_49 : decode prog_4_method_30_code 49 = .ok (.goto 4, 3) := by decide +kernel
theorem d_Y_compareSizes_52 : decode prog_4_method_30_code 52 = .ok (.iconst 0, 1) := by decide +kernel
theorem d_Y_compareSizes_53 : decode prog_4_method_30_code 53 = .ok (.ireturn, 1) := by decide +kernel
theorem d_Y_compareSizes_54 : decode prog_4_method_30_code 54 = .ok (.aload_n 0, 1) := by decide +kernel
theorem d_Y_compareSizes_55 : decode prog_4_method_30_code 55 = .ok (.getfield 13, 3) := by decide +kernel
theorem d_Y_compareSizes_58 : decode prog_4_method_30_code 58 = .ok (.iload_n 1, 1) := by decide +kernel
theorem d_Y_compareSizes_59 : decode prog_4_method_30_code 59 = .ok (.iaload, 1) := by decide +kernel
theorem d_Y_compareSizes_60 : decode prog_4_method_30_code 60 = .ok (.istore 8, 2) := by decide +kernel
theorem d_Y_compareSizes_62 : decode prog_4_method_30_code 62 = .ok (.aload_n 0, 1) := by decide +kernel
theorem d_Y_compareSizes_63 : decode prog_4_method_30_code 63 = .ok (.getfield 13, 3) := by decide +kernel
theorem d_Y_compareSizes_66 : decode prog_4_method_30_code 66 = .ok (.iload_n 2, 1) := by decide +kernel
theorem d_Y_compareSizes_67 : decode prog_4_method_30_code 67 = .ok (.iaload, 1) := by decide +kernel
theorem d_Y_compareSizes_68 : decode prog_4_method_30_code 68 = .ok (.iload_n 3, 1) := by decide +kernel
theorem d_Y_compareSizes_69 : decode prog_4_method_30_code 69 = .ok (.iadd, 1) := by decide +kernel
theorem d_Y_compareSizes_70 : decode prog_4_method_30_code 70 = .ok (.istore 9, 2) := by decide +kernel
theorem d_Y_compareSizes_72 : decode prog_4_method_30_code 72 = .ok (.lload 4, 2) := by decide +kernel
theorem d_Y_compareSizes_74 : decode prog_4_method_30_code 74 = .ok (.invokestatic 29, 3) := by decide +kernel
theorem d_Y_compareSizes_77 : decode prog_4_method_30_code 77 = .ok (.iload 8, 2) := by decide +kernel
theorem d_Y_compareSizes_79 : decode prog_4_method_30_code 79 = .ok (.iadd, 1) := by decide +kernel
theorem d_Y_compareSizes_80 : decode prog_4_method_30_code 80 = .ok (.istore 10, 2) := by decide +kernel
theorem d_Y_compareSizes_82 : decode prog_4_method_30_code 82 = .ok (.lload 6, 2) := by decide +kernel
theorem d_Y_compareSizes_84 : decode prog_4_method_30_code 84 = .ok (.invokestatic 29, 3) := by decide +kernel
theorem d_Y_compareSizes_87 : decode prog_4_method_30_code 87 = .ok (.iload 9, 2) := by decide +kernel
theorem d_Y_compareSizes_89 : decode prog_4_method_30_code 89 = .ok (.iadd, 1) := by decide +kernel
theorem d_Y_compareSizes_90 : decode prog_4_method_30_code 90 = .ok (.istore 11, 2) := by decide +kernel
theorem d_Y_compareSizes_92 : decode prog_4_method_30_code 92 = .ok (.iload 10, 2) := by decide +kernel
theorem d_Y_compareSizes_94 : decode prog_4_method_30_code 94 = .ok (.iload 11, 2) := by decide +kernel
theorem d_Y_compareSizes_96 : decode prog_4_method_30_code 96 = .ok (.if_icmp .eq 16, 3) := by decide +kernel
theorem d_Y_compareSizes_99 : decode prog_4_method_30_code 99 = .ok (.iload 10, 2) := by decide +kernel
theorem d_Y_compareSizes_101 : decode prog_4_method_30_code 101 = .ok (.iload 11, 2) := by decide +kernel
theorem d_Y_compareSizes_103 : decode prog_4_method_30_code 103 = .ok (.if_icmp .ge 7, 3) := by decide +kernel
theorem d_Y_compareSizes_106 : decode prog_4_method_30_code 106 = .ok (.iconst (-1), 1) := by decide +kernel
theorem d_Y_compareSizes_107 : decode prog_4_method_30_code 107 = .ok (.goto 4, 3) := by decide +kernel
theorem d_Y_compareSizes_110 : decode prog_4_method_30_code 110 = .ok (.iconst 1, 1) := by decide +kernel
theorem d_Y_compareSizes_111 : decode prog_4_method_30_code 111 = .ok (.ireturn, 1) := by decide +kernel
theorem d_Y_compareSizes_112 : decode prog_4_method_30_code 112 = .ok (.iload 8, 2) := by decide +kernel
theorem d_Y_compareSizes_114 : decode prog_4_method_30_code 114 = .ok (.iload 9, 2) := by decide +kernel
theorem d_Y_compareSizes_116 : decode prog_4_method_30_code 116 = .ok (.if_icmp .le 17, 3) := by decide +kernel
theorem d_Y_compareSizes_119 : decode prog_4_method_30_code 119 = .ok (.lload 4, 2) := by decide +kernel
theorem d_Y_compareSizes_121 : decode prog_4_method_30_code 121 = .ok (.ldc2_w 37, 3) := by decide +kernel
theorem d_Y_compareSizes_124 : decode prog_4_method_30_code 124 = .ok (.lmul, 1) := by decide +kernel
theorem d_Y_compareSizes_125 : decode prog_4_method_30_code 125 = .ok (.lstore 4, 2) := by decide +kernel
theorem d_Y_compareSizes_127 : decode prog_4_method_30_code 127 = .ok (.iinc 8 (-1), 3) := by decide +kernel
theorem d_Y_compareSizes_130 : decode prog_4_method_30_code 130 = .ok (.goto (-18), 3) := by decide +kernel
theorem d_Y_compareSizes_133 : decode prog_4_method_30_code 133 = .ok (.iload 9, 2) := by decide +kernel
theorem d_Y_compareSizes_135 : decode prog_4_method_30_code 135 = .ok (.iload 8, 2) := by decide +kernel
theorem d_Y_compareSizes_137 : decode prog_4_method_30_code 137 = .ok (.if_icmp .le 17, 3) := by decide +kernel
theorem d_Y_compareSizes_140 : decode prog_4_method_30_code 140 = .ok (.lload 6, 2) := by decide +kernel
theorem d_Y_compareSizes_142 : decode prog_4_method_30_code 142 = .ok (.ldc2_w 37, 3) := by decide +kernel
theorem d_Y_compareSizes_145 : decode prog_4_method_30_code 145 = .ok (.lmul, 1) := by decide +kernel
theorem d_Y_compareSizes_146 : decode prog_4_method_30_code 146 = .ok (.lstore 6, 2) := by decide +kernel
theorem d_Y_compareSizes_148 : decode prog_4_method_30_code 148 = .ok (.iinc 9 (-1), 3) := by decide +kernel
theorem d_Y_compareSizes_151 : decode prog_4_method_30_code 151 = .ok (.goto (-18), 3) := by decide +kernel
theorem d_Y_compareSizes_154 : decode prog_4_method_30_code 154 = .ok (.lload 4, 2) := by decide +kernel
theorem d_Y_compareSizes_156 : decode prog_4_method_30_code 156 = .ok (.lload 6, 2) := by decide +kernel
theorem d_Y_compareSizes_158 : decode prog_4_method_30_code 158 = .ok (.lcmp, 1) := by decide +kernel
theorem d_Y_compareSizes_159 : decode prog_4_method_30_code 159 = .ok (.ifCond .ge 7, 3) := by decide +kernel
theorem d_Y_compareSizes_162 : decode prog_4_method_30_code 162 = .ok (.iconst (-1), 1) := by decide +kernel
theorem d_Y_compareSizes_163 : decode prog_4_method_30_code 163 = .ok (.goto 16, 3) := by decide +kernel
theorem d_Y_compareSizes_166 : decode prog_4_method_30_code 166 = .ok (.lload 4, 2) := by decide +kernel
theorem d_Y_compareSizes_168 : decode prog_4_method_30_code 168 = .ok (.lload 6, 2) := by decide +kernel
theorem d_Y_compareSizes_170 : decode prog_4_method_30_code 170 = .ok (.lcmp, 1) := by decide +kernel
theorem d_Y_compareSizes_171 : decode prog_4_method_30_code 171 = .ok (.ifCond .le 7, 3) := by decide +kernel
theorem d_Y_compareSizes_174 : decode prog_4_method_30_code 174 = .ok (.iconst 1, 1) := by decide +kernel
theorem d_Y_compareSizes_175 : decode prog_4_method_30_code 175 = .ok (.goto 4, 3) := by decide +kernel
theorem d_Y_compareSizes_178 : decode prog_4_method_30_code 178 = .ok (.iconst 0, 1) := by decide +kernel
theorem d_Y_compareSizes_179 : decode prog_4_method_30_code 179 = .ok (.ireturn, 1) := by decide +kernel
theorem d_Y_remainder_0 : decode prog_4_method_31_code 0 = .ok (.iload_n 1, 1) := by decide +kernel
theorem d_Y_remainder_1 : decode prog_4_method_31_code 1 = .ok (.invokestatic 101, 3) := by decide +kernel
theorem d_Y_remainder_4 : decode prog_4_method_31_code 4 = .ok (.ifCond .ne 39, 3) := by decide +kernel
theorem d_Y_remainder_7 : decode prog_4_method_31_code 7 = .ok (.iload_n 2, 1) := by decide +kernel
theorem d_Y_remainder_8 : decode prog_4_method_31_code 8 = .ok (.invokestatic 101, 3) := by decide +kernel
theorem d_Y_remainder_11 : decode prog_4_method_31_code 11 = .ok (.ifCond .ne 32, 3) := by decide +kernel
theorem d_Y_remainder_14 : decode prog_4_method_31_code 14 = .ok (.iload_n 3, 1) := by decide +kernel
theorem d_Y_remainder_15 : decode prog_4_method_31_code 15 = .ok (.invokestatic 101, 3) := by decide +kernel
theorem d_Y_remainder_18 : decode prog_4_method_31_code 18 = .ok (.ifCond .ne 25, 3) := by decide +kernel
theorem d_Y_remainder_21 : decode prog_4_method_31_code 21 = .ok (.aload_n 0, 1) := by decide +kernel
theorem d_Y_remainder_22 : decode prog_4_method_31_code 22 = .ok (.getfield 7, 3) := by decide +kernel
theorem d_Y_remainder_25 : decode prog_4_method_31_code 25 = .ok (.iload_n 3, 1) := by decide +kernel
theorem d_Y_remainder_26 : decode prog_4_method_31_code 26 = .ok (.laload, 1) := by decide +kernel
theorem d_Y_remainder_27 : decode prog_4_method_31_code 27 = .ok (.lconst 0, 1) := by decide +kernel
theorem d_Y_remainder_28 : decode prog_4_method_31_code 28 = .ok (.lcmp, 1) := by decide +kernel
theorem d_Y_remainder_29 : decode prog_4_method_31_code 29 = .ok (.ifCond .eq 14, 3) := by decide +kernel
theorem d_Y_remainder_32 : decode prog_4_method_31_code 32 = .ok (.aload_n 0, 1) := by decide +kernel
theorem d_Y_remainder_33 : decode prog_4_method_31_code 33 = .ok (.iload_n 2, 1) := by decide +kernel
theorem d_Y_remainder_34 : decode prog_4_method_31_code 34 = .ok (.iload_n 3, 1) := by decide +kernel
theorem d_Y_remainder_35 : decode prog_4_method_31_code 35 = .ok (.bipush 60, 2) := by decide +kernel
theorem d_Y_remainder_37 : decode prog_4_method_31_code 37 = .ok (.invokevirtual 144, 3) := by decide +kernel
theorem d_Y_remainder_40 : decode prog_4_method_31_code 40 = .ok (.ifCond .lt 5, 3) := by decide +kernel
theorem d_Y_remainder_43 : decode prog_4_method_31_code 43 = .ok (.iconst (-1), 1) := by decide +kernel
theorem d_Y_remainder_44 : decode prog_4_method_31_code 44 = .ok (.ireturn, 1) := by decide +kernel
theorem d_Y_remainder_45 : decode prog_4_method_31_code 45 = .ok (.aload_n 0, 1) := by decide +kernel
theorem d_Y_remainder_46 : decode prog_4_method_31_code 46 = .ok (.iload_n 2, 1) := by decide +kernel
theorem d_Y_remainder_47 : decode prog_4_method_31_code 47 = .ok (.iload_n 3, 1) := by decide +kernel
theorem d_Y_remainder_48 : decode prog_4_method_31_code 48 = .ok (.iconst 0, 1) := by decide +kernel
theorem d_Y_remainder_49 : decode prog_4_method_31_code 49 = .ok (.invokevirtual 144, 3) := by decide +kernel
theorem d_Y_remainder_52 : decode prog_4_method_31_code 52 = .ok (.ifCond .ge 28, 3) := by decide +kernel
theorem d_Y_remainder_55 : decode prog_4_method_31_code 55 = .ok (.aload_n 0, 1) := by decide +kernel
theorem d_Y_remainder_56 : decode prog_4_method_31_code 56 = .ok (.iload_n 1, 1) := by decide +kernel
theorem d_Y_remainder_57 : decode prog_4_method_31_code 57 = .ok (.aload_n 0, 1) := by decide +kernel
theorem d_Y_remainder_58 : decode prog_4_method_31_code 58 = .ok (.getfield 17, 3) := by decide +kernel
theorem d_Y_remainder_61 : decode prog_4_method_31_code 61 = .ok (.iload_n 2, 1) := by decide +kernel
theorem d_Y_remainder_62 : decode prog_4_method_31_code 62 = .ok (.baload, 1) := by decide +kernel
theorem d_Y_remainder_63 : decode prog_4_method_31_code 63 = .ok (.aload_n 0, 1) := by decide +kernel
theorem d_Y_remainder_64 : decode prog_4_method_31_code 64 = .ok (.getfield 7, 3) := by decide +kernel
theorem d_Y_remainder_67 : decode prog_4_method_31_code 67 = .ok (.iload_n 2, 1) := by decide +kernel
theorem d_Y_remainder_68 : decode prog_4_method_31_code 68 = .ok (.laload, 1) := by decide +kernel
theorem d_Y_remainder_69 : decode prog_4_method_31_code 69 = .ok (.aload_n 0, 1) := by decide +kernel
theorem d_Y_remainder_70 : decode prog_4_method_31_code 70 = .ok (.getfield 13, 3) := by decide +kernel
theorem d_Y_remainder_73 : decode prog_4_method_31_code 73 = .ok (.iload_n 2, 1) := by decide +kernel
theorem d_Y_remainder_74 : decode prog_4_method_31_code 74 = .ok (.iaload, 1) := by decide +kernel
theorem d_Y_remainder_75 : decode prog_4_method_31_code 75 = .ok (.iconst 0, 1) := by decide +kernel
theorem d_Y_remainder_76 : decode prog_4_method_31_code 76 = .ok (.invokevirtual 64, 3) := by decide +kernel
theorem d_Y_remainder_79 : decode prog_4_method_31_code 79 = .ok (.ireturn, 1) := by decide +kernel
theorem d_Y_remainder_80 : decode prog_4_method_31_code 80 = .ok (.aload_n 0, 1) := by decide +kernel
theorem d_Y_remainder_81 : decode prog_4_method_31_code 81 = .ok (.getfield 13, 3) := by decide +kernel
theorem d_Y_remainder_84 : decode prog_4_method_31_code 84 = .ok (.iload_n 2, 1) := by decide +kernel
theorem d_Y_remainder_85 : decode prog_4_method_31_code 85 = .ok (.iaload, 1) := by decide +kernel
theorem d_Y_remainder_86 : decode prog_4_method_31_code 86 = .ok (.aload_n 0, 1) := by decide +kernel
theorem d_Y_remainder_87 : decode prog_4_method_31_code 87 = .ok (.getfield 13, 3) := by decide +kernel
theorem d_Y_remainder_90 : decode prog_4_method_31_code 90 = .ok (.iload_n 3, 1) := by decide +kernel
theorem d_Y_remainder_91 : decode prog_4_method_31_code 91 = .ok (.iaload, 1) := by decide +kernel
theorem d_Y_remainder_92 : decode prog_4_method_31_code 92 = .ok (.isub, 1) := by decide +kernel
theorem d_Y_remainder_93 : decode prog_4_method_31_code 93 = .ok (.istore 4, 2) := by decide +kernel
theorem d_Y_remainder_95 : decode prog_4_method_31_code 95 = .ok (.iload 4, 2) := by decide +kernel
theorem d_Y_remainder_97 : decode prog_4_method_31_code 97 = .ok (.ifCond .ge 39, 3) := by decide +kernel
theorem d_Y_remainder_100 : decode prog_4_method_31_code 100 = .ok (.aload_n 0, 1) := by decide +kernel
theorem d_Y_remainder_101 : decode prog_4_method_31_code 101 = .ok (.iload_n 1, 1) := by decide +kernel
theorem d_Y_remainder_102 : decode prog_4_method_31_code 102 = .ok (.aload_n 0, 1) := by decide +kernel
theorem d_Y_remainder_103 : decode prog_4_method_31_code 103 = .ok (.getfield 17, 3) := by decide +kernel
theorem d_Y_remainder_106 : decode prog_4_method_31_code 106 = .ok (.iload_n 2, 1) := by decide +kernel
theorem d_Y_remainder_107 : decode prog_4_method_31_code 107 = .ok (.baload, 1) := by decide +kernel
theorem d_Y_remainder_108 : decode prog_4_method_31_code 108 = .ok (.aload_n 0, 1) := by decide +kernel
theorem d_Y_remainder_109 : decode prog_4_method_31_code 109 = .ok (.getfield 7, 3) := by decide +kernel
theorem d_Y_remainder_112 : decode prog_4_method_31_code 112 = .ok (.iload_n 2, 1) := by decide +kernel
theorem d_Y_remainder_113 : decode prog_4_method_31_code 113 = .ok (.laload, 1) := by decide +kernel
theorem d_Y_remainder_114 : decode prog_4_method_31_code 114 = .ok (.aload_n 0, 1) := by decide +kernel
theorem d_Y_remainder_115 : decode prog_4_method_31_code 115 = .ok (.getfield 7, 3) := by decide +kernel
theorem d_Y_remainder_118 : decode prog_4_method_31_code 118 = .ok (.iload_n 3, 1) := by decide +kernel
theorem d_Y_remainder_119 : decode prog_4_method_31_code 119 = .ok (.laload, 1) := by decide +kernel
theorem d_Y_remainder_120 : decode prog_4_method_31_code 120 = .ok (.iload 4, 2) := by decide +kernel
theorem d_Y_remainder_122 : decode prog_4_method_31_code 122 = .ok (.ineg, 1) := by decide +kernel
theorem d_Y_remainder_123 : decode prog_4_method_31_code 123 = .ok (.lshl, 1) := by decide +kernel
theorem d_Y_remainder_124 : decode prog_4_method_31_code 124 = .ok (.lrem, 1) := by decide +kernel
theorem d_Y_remainder_125 : decode prog_4_method_31_code 125 = .ok (.aload_n 0, 1) := by decide +kernel
theorem d_Y_remainder_126 : decode prog_4_method_31_code 126 = .ok (.getfield 13, 3) := by decide +kernel
theorem d_Y_remainder_129 : decode prog_4_method_31_code 129 = .ok (.iload_n 2, 1) := by decide +kernel
theorem d_Y_remainder_130 : decode prog_4_method_31_code 130 = .ok (.iaload, 1) := by decide +kernel
theorem d_Y_remainder_131 : decode prog_4_method_31_code 131 = .ok (.iconst 0, 1) := by decide +kernel
theorem d_Y_remainder_132 : decode prog_4_method_31_code 132 = .ok (.invokevirtual 64, 3) := by decide +kernel
theorem d_Y_remainder_135 : decode prog_4_method_31_code 135 = .ok (.ireturn, 1) := by decide +kernel
theorem d_Y_remainder_136 : decode prog_4_method_31_code 136 = .ok (.aload_n 0, 1) := by decide +kernel
theorem d_Y_remainder_137 : decode prog_4_method_31_code 137 = .ok (.getfield 7, 3) := by decide +kernel
theorem d_Y_remainder_140 : decode prog_4_method_31_code 140 = .ok (.iload_n 2, 1) := by decide +kernel
theorem d_Y_remainder_141 : decode prog_4_method_31_code 141 = .ok (.laload, 1) := by decide +kernel
theorem d_Y_remainder_142 : decode prog_4_method_31_code 142 = .ok (.aload_n 0, 1) := by decide +kernel
theorem d_Y_remainder_143 : decode prog_4_method_31_code 143 = .ok (.getfield 7, 3) := by decide +kernel
theorem d_Y_remainder_146 : decode prog_4_method_31_code 146 = .ok (.iload_n 3, 1) := by decide +kernel
theorem d_Y_remainder_147 : decode prog_4_method_31_code 147 = .ok (.laload, 1) := by decide +kernel
theorem d_Y_remainder_148 : decode prog_4_method_31_code 148 = .ok (.lrem, 1) := by decide +kernel
theorem d_Y_remainder_149 : decode prog_4_method_31_code 149 = .ok (.lstore 5, 2) := by decide +kernel
theorem d_Y_remainder_151 : decode prog_4_method_31_code 151 = .ok (.iconst 0, 1) := by decide +kernel
theorem d_Y_remainder_152 : decode prog_4_method_31_code 152 = .ok (.istore 7, 2) := by decide +kernel
theorem d_Y_remainder_154 : decode prog_4_method_31_code 154 = .ok (.iload 7, 2) := by decide +kernel
theorem d_Y_remainder_156 : decode prog_4_method_31_code 156 = .ok (.iload 4, 2) := by decide +kernel
theorem d_Y_remainder_158 : decode prog_4_method_31_code 158 = .ok (.if_icmp .ge 24, 3) := by decide +kernel
theorem d_Y_remainder_161 : decode prog_4_method_31_code 161 = .ok (.ldc2_w 37, 3) := by decide +kernel
theorem d_Y_remainder_164 : decode prog_4_method_31_code 164 = .ok (.lload 5, 2) := by decide +kernel
theorem d_Y_remainder_166 : decode prog_4_method_31_code 166 = .ok (.lmul, 1) := by decide +kernel
theorem d_Y_remainder_167 : decode prog_4_method_31_code 167 = .ok (.aload_n 0, 1) := by decide +kernel
theorem d_Y_remainder_168 : decode prog_4_method_31_code 168 = .ok (.getfield 7, 3) := by decide +kernel
theorem d_Y_remainder_171 : decode prog_4_method_31_code 171 = .ok (.iload_n 3, 1) := by decide +kernel
theorem d_Y_remainder_172 : decode prog_4_method_31_code 172 = .ok (.laload, 1) := by decide +kernel
theorem d_Y_remainder_173 : decode prog_4_method_31_code 173 = .ok (.lrem, 1) := by decide +kernel
theorem d_Y_remainder_174 : decode prog_4_method_31_code 174 = .ok (.lstore 5, 2) := by decide +kernel
theorem d_Y_remainder_176 : decode prog_4_method_31_code 176 = .ok (.iinc 7 1, 3) := by decide +kernel
theorem d_Y_remainder_179 : decode prog_4_method_31_code 179 = .ok (.goto (-25), 3) := by decide +kernel
theorem d_Y_remainder_182 : decode prog_4_method_31_code 182 = .ok (.aload_n 0, 1) := by decide +kernel
theorem d_Y_remainder_183 : decode prog_4_method_31_code 183 = .ok (.iload_n 1, 1) := by decide +kernel
theorem d_Y_remainder_184 : decode prog_4_method_31_code 184 = .ok (.aload_n 0, 1) := by decide +kernel
theorem d_Y_remainder_185 : decode prog_4_method_31_code 185 = .ok (.getfield 17, 3) := by decide +kernel
theorem d_Y_remainder_188 : decode prog_4_method_31_code 188 = .ok (.iload_n 2, 1) := by decide +kernel
theorem d_Y_remainder_189 : decode prog_4_method_31_code 189 = .ok (.baload, 1) := by decide +kernel
theorem d_Y_remainder_190 : decode prog_4_method_31_code 190 = .ok (.lload 5, 2) := by decide +kernel
theorem d_Y_remainder_192 : decode prog_4_method_31_code 192 = .ok (.aload_n 0, 1) := by decide +kernel
theorem d_Y_remainder_193 : decode prog_4_method_31_code 193 = .ok (.getfield 13, 3) := by decide +kernel
theorem d_Y_remainder_196 : decode prog_4_method_31_code 196 = .ok (.iload_n 3, 1) := by decide +kernel
theorem d_Y_remainder_197 : decode prog_4_method_31_code 197 = .ok (.iaload, 1) := by decide +kernel
theorem d_Y_remainder_198 : decode prog_4_method_31_code 198 = .ok (.iconst 0, 1) := by decide +kernel
theorem d_Y_remainder_199 : decode prog_4_method_31_code 199 = .ok (.invokevirtual 64, 3) := by decide +kernel
theorem d_Y_remainder_202 : decode prog_4_method_31_code 202 = .ok (.ireturn, 1) := by decide +kernel
theorem d_Y_copy_0 : decode prog_4_method_32_code 0 = .ok (.iload_n 1, 1) := by decide +kernel
theorem d_Y_copy_1 : decode prog_4_method_32_code 1 = .ok (.invokestatic 101, 3) := by decide +kernel
theorem d_Y_copy_4 : decode prog_4_method_32_code 4 = .ok (.ifCond .ne 10, 3) := by decide +kernel
theorem d_Y_copy_7 : decode prog_4_method_32_code 7 = .ok (.iload_n 2, 1) := by decide +kernel
theorem d_Y_copy_8 : decode prog_4_method_32_code 8 = .ok (.invokestatic 101, 3) := by decide +kernel
theorem d_Y_copy_11 : decode prog_4_method_32_code 11 = .ok (.ifCond .eq 5, 3) := by decide +kernel
theorem d_Y_copy_14 : decode prog_4_method_32_code 14 = .ok (.iconst (-1), 1) := by decide +kernel
theorem d_Y_copy_15 : decode prog_4_method_32_code 15 = .ok (.ireturn, 1) := by decide +kernel
theorem d_Y_copy_16 : decode prog_4_method_32_code 16 = .ok (.aload_n 0, 1) := by decide +kernel
theorem d_Y_copy_17 : decode prog_4_method_32_code 17 = .ok (.aload_n 0, 1) := by decide +kernel
theorem d_Y_copy_18 : decode prog_4_method_32_code 18 = .ok (.getfield 7, 3) := by decide +kernel
theorem d_Y_copy_21 : decode prog_4_method_32_code 21 = .ok (.iload_n 2, 1) := by decide +kernel
theorem d_Y_copy_22 : decode prog_4_method_32_code 22 = .ok (.laload, 1) := by decide +kernel
theorem d_Y_copy_23 : decode prog_4_method_32_code 23 = .ok (.putfield 57, 3) := by decide +kernel
theorem d_Y_copy_26 : decode prog_4_method_32_code 26 = .ok (.aload_n 0, 1) := by decide +kernel
theorem d_Y_copy_27 : decode prog_4_method_32_code 27 = .ok (.aload_n 0, 1) := by decide +kernel
theorem d_Y_copy_28 : decode prog_4_method_32_code 28 = .ok (.getfield 13, 3) := by decide +kernel
theorem d_Y_copy_31 : decode prog_4_method_32_code 31 = .ok (.iload_n 2, 1) := by decide +kernel
theorem d_Y_copy_32 : decode prog_4_method_32_code 32 = .ok (.iaload, 1) := by decide +kernel
theorem d_Y_copy_33 : decode prog_4_method_32_code 33 = .ok (.putfield 61, 3) := by decide +kernel
theorem d_Y_copy_36 : decode prog_4_method_32_code 36 = .ok (.aload_n 0, 1) := by decide +kernel
theorem d_Y_copy_37 : decode prog_4_method_32_code 37 = .ok (.iconst 0, 1) := by decide +kernel
theorem d_Y_copy_38 : decode prog_4_method_32_code 38 = .ok (.putfield 68, 3) := by decide +kernel
theorem d_Y_copy_41 : decode prog_4_method_32_code 41 = .ok (.aload_n 0, 1) := by decide +kernel
theorem d_Y_copy_42 : decode prog_4_method_32_code 42 = .ok (.iload_n 1, 1) := by decide +kernel
theorem d_Y_copy_43 : decode prog_4_method_32_code 43 = .ok (.aload_n 0, 1) := by decide +kernel
theorem d_Y_copy_44 : decode prog_4_method_32_code 44 = .ok (.getfield 17, 3) := by decide +kernel
theorem d_Y_copy_47 : decode prog_4_method_32_code 47 = .ok (.iload_n 2, 1) := by decide +kernel
theorem d_Y_copy_48 : decode prog_4_method_32_code 48 = .ok (.baload, 1) := by decide +kernel
theorem d_Y_copy_49 : decode prog_4_method_32_code 49 = .ok (.iload_n 3, 1) := by decide +kernel
theorem d_Y_copy_50 : decode prog_4_method_32_code 50 = .ok (.invokestatic 120, 3) := by decide +kernel
theorem d_Y_copy_53 : decode prog_4_method_32_code 53 = .ok (.invokevirtual 97, 3) := by decide +kernel
theorem d_Y_copy_56 : decode prog_4_method_32_code 56 = .ok (.ireturn, 1) := by decide +kernel
theorem d_Y_scale_0 : decode prog_4_method_33_code 0 = .ok (.iload_n 1, 1) := by decide +kernel
theorem d_Y_scale_1 : decode prog_4_method_33_code 1 = .ok (.invokestatic 101, 3) := by decide +kernel
theorem d_Y_scale_4 : decode prog_4_method_33_code 4 = .ok (.ifCond .ne 24, 3) := by decide +kernel
theorem d_Y_scale_7 : decode prog_4_method_33_code 7 = .ok (.iload_n 2, 1) := by decide +kernel
theorem d_Y_scale_8 : decode prog_4_method_33_code 8 = .ok (.invokestatic 101, 3) := by decide +kernel
theorem d_Y_scale_11 : decode prog_4_method_33_code 11 = .ok (.ifCond .ne 17, 3) := by decide +kernel
theorem d_Y_scale_14 : decode prog_4_method_33_code 14 = .ok (.iload_n 3, 1) := by decide +kernel
theorem d_Y_scale_15 : decode prog_4_method_33_code 15 = .ok (.sipush (-500), 3) := by decide +kernel
theorem d_Y_scale_18 : decode prog_4_method_33_code 18 = .ok (.if_icmp .lt 10, 3) := by decide +kernel
theorem d_Y_scale_21 : decode prog_4_method_33_code 21 = .ok (.iload_n 3, 1) := by decide +kernel
theorem d_Y_scale_22 : decode prog_4_method_33_code 22 = .ok (.sipush 500, 3) := by decide +kernel
theorem d_Y_scale_25 : decode prog_4_method_33_code 25 = .ok (.if_icmp .le 5, 3) := by decide +kernel
theorem d_Y_scale_28 : decode prog_4_method_33_code 28 = .ok (.iconst (-1), 1) := by decide +kernel
theorem d_Y_scale_29 : decode prog_4_method_33_code 29 = .ok (.ireturn, 1) := by decide +kernel
theorem d_Y_scale_30 : decode prog_4_method_33_code 30 = .ok (.aload_n 0, 1) := by decide +kernel
theorem d_Y_scale_31 : decode prog_4_method_33_code 31 = .ok (.iload_n 1, 1) := by decide +kernel
theorem d_Y_scale_32 : decode prog_4_method_33_code 32 = .ok (.aload_n 0, 1) := by decide +kernel
theorem d_Y_scale_33 : decode prog_4_method_33_code 33 = .ok (.getfield 17, 3) := by decide +kernel
theorem d_Y_scale_36 : decode prog_4_method_33_code 36 = .ok (.iload_n 2, 1) := by decide +kernel
theorem d_Y_scale_37 : decode prog_4_method_33_code 37 = .ok (.baload, 1) := by decide +kernel
theorem d_Y_scale_38 : decode prog_4_method_33_code 38 = .ok (.aload_n 0, 1) := by decide +kernel
theorem d_Y_scale_39 : decode prog_4_method_33_code 39 = .ok (.getfield 7, 3) := by decide +kernel
theorem d_Y_scale_42 : decode prog_4_method_33_code 42 = .ok (.iload_n 2, 1) := by decide +kernel
theorem d_Y_scale_43 : decode prog_4_method_33_code 43 = .ok (.laload, 1) := by decide +kernel
theorem d_Y_scale_44 : decode prog_4_method_33_code 44 = .ok (.aload_n 0, 1) := by decide +kernel
theorem d_Y_scale_45 : decode prog_4_method_33_code 45 = .ok (.getfield 13, 3) := by decide +kernel
theorem d_Y_scale_48 : decode prog_4_method_33_code 48 = .ok (.iload_n 2, 1) := by decide +kernel
theorem d_Y_scale_49 : decode prog_4_method_33_code 49 = .ok (.iaload, 1) := by decide +kernel
theorem d_Y_scale_50 : decode prog_4_method_33_code 50 = .ok (.iload_n 3, 1) := by decide +kernel
theorem d_Y_scale_51 : decode prog_4_method_33_code 51 = .ok (.iadd, 1) := by decide +kernel
theorem d_Y_scale_52 : decode prog_4_method_33_code 52 = .ok (.iconst 0, 1) := by decide +kernel
theorem d_Y_scale_53 : decode prog_4_method_33_code 53 = .ok (.invokevirtual 64, 3) := by decide +kernel
theorem d_Y_scale_56 : decode prog_4_method_33_code 56 = .ok (.ireturn, 1) := by decide +kernel
theorem d_Y_toward_0 : decode prog_4_method_35_code 0 = .ok (.lload_n 3, 1) := by decide +kernel
theorem d_Y_toward_1 : decode prog_4_method_35_code 1 = .ok (.iload 5, 2) := by decide +kernel
theorem d_Y_toward_3 : decode prog_4_method_35_code 3 = .ok (.invokestatic 39, 3) := by decide +kernel
theorem d_Y_toward_6 : decode prog_4_method_35_code 6 = .ok (.ifCond .eq 16, 3) := by decide +kernel
theorem d_Y_toward_9 : decode prog_4_method_35_code 9 = .ok (.aload_n 0, 1) := by decide +kernel
theorem d_Y_toward_10 : decode prog_4_method_35_code 10 = .ok (.iload_n 1, 1) := by decide +kernel
theorem d_Y_toward_11 : decode prog_4_method_35_code 11 = .ok (.iload_n 2, 1) := by decide +kernel
theorem d_Y_toward_12 : decode prog_4_method_35_code 12 = .ok (.lload_n 3, 1) := by decide +kernel
theorem d_Y_toward_13 : decode prog_4_method_35_code 13 = .ok (.iload 5, 2) := by decide +kernel
theorem d_Y_toward_15 : decode prog_4_method_35_code 15 = .ok (.iconst 0, 1) := by decide +kernel
theorem d_Y_toward_16 : decode prog_4_method_35_code 16 = .ok (.invokevirtual 64, 3) := by decide +kernel
theorem d_Y_toward_19 : decode prog_4_method_35_code 19 = .ok (.goto 12, 3) := by decide +kernel
theorem d_Y_toward_22 : decode prog_4_method_35_code 22 = .ok (.aload_n 0, 1) := by decide +kernel
theorem d_Y_toward_23 : decode prog_4_method_35_code 23 = .ok (.iload_n 1, 1) := by decide +kernel
theorem d_Y_toward_24 : decode prog_4_method_35_code 24 = .ok (.iconst 0, 1) := by decide +kernel
theorem d_Y_toward_25 : decode prog_4_method_35_code 25 = .ok (.lconst 0, 1) := by decide +kernel
theorem d_Y_toward_26 : decode prog_4_method_35_code 26 = .ok (.iconst 0, 1) := by decide +kernel
theorem d_Y_toward_27 : decode prog_4_method_35_code 27 = .ok (.iconst 0, 1) := by decide +kernel
theorem d_Y_toward_28 : decode prog_4_method_35_code 28 = .ok (.invokevirtual 64, 3) := by decide +kernel
theorem d_Y_toward_31 : decode prog_4_method_35_code 31 = .ok (.ireturn, 1) := by decide +kernel
theorem d_Y_step_0 : decode prog_4_method_34_code 0 = .ok (.iload_n 1, 1) := by decide +kernel
theorem d_Y_step_1 : decode prog_4_method_34_code 1 = .ok (.invokestatic 101, 3) := by decide +kernel
theorem d_Y_step_4 : decode prog_4_method_34_code 4 = .ok (.ifCond .ne 10, 3) := by decide +kernel
theorem d_Y_step_7 : decode prog_4_method_34_code 7 = .ok (.iload_n 2, 1) := by decide +kernel
theorem d_Y_step_8 : decode prog_4_method_34_code 8 = .ok (.invokestatic 101, 3) := by decide +kernel
theorem d_Y_step_11 : decode prog_4_method_34_code 11 = .ok (.ifCond .eq 5, 3) := by decide +kernel
theorem d_Y_step_14 : decode prog_4_method_34_code 14 = .ok (.iconst (-1), 1) := by decide +kernel
theorem d_Y_step_15 : decode prog_4_method_34_code 15 = .ok (.ireturn, 1) := by decide +kernel
theorem d_Y_step_16 : decode prog_4_method_34_code 16 = .ok (.iload 4, 2) := by decide +kernel
theorem d_Y_step_18 : decode prog_4_method_34_code 18 = .ok (.invokestatic 120, 3) := by decide +kernel
theorem d_Y_step_21 : decode prog_4_method_34_code 21 = .ok (.istore 5, 2) := by decide +kernel
theorem d_Y_step_23 : decode prog_4_method_34_code 23 = .ok (.aload_n 0, 1) := by decide +kernel
theorem d_Y_step_24 : decode prog_4_method_34_code 24 = .ok (.getfield 7, 3) := by decide +kernel
theorem d_Y_step_27 : decode prog_4_method_34_code 27 = .ok (.iload_n 2, 1) := by decide +kernel
theorem d_Y_step_28 : decode prog_4_method_34_code 28 = .ok (.laload, 1) := by decide +kernel
theorem d_Y_step_29 : decode prog_4_method_34_code 29 = .ok (.lstore 6, 2) := by decide +kernel
theorem d_Y_step_31 : decode prog_4_method_34_code 31 = .ok (.aload_n 0, 1) := by decide +kernel
theorem d_Y_step_32 : decode prog_4_method_34_code 32 = .ok (.getfield 13, 3) := by decide +kernel
theorem d_Y_step_35 : decode prog_4_method_34_code 35 = .ok (.iload_n 2, 1) := by decide +kernel
theorem d_Y_step_36 : decode prog_4_method_34_code 36 = .ok (.iaload, 1) := by decide +kernel
theorem d_Y_step_37 : decode prog_4_method_34_code 37 = .ok (.istore 8, 2) := by decide +kernel
theorem d_Y_step_39 : decode prog_4_method_34_code 39 = .ok (.lload 6, 2) := by decide +kernel
theorem d_Y_step_41 : decode prog_4_method_34_code 41 = .ok (.lconst 0, 1) := by decide +kernel
theorem d_Y_step_42 : decode prog_4_method_34_code 42 = .ok (.lcmp, 1) := by decide +kernel
theorem d_Y_step_43 : decode prog_4_method_34_code 43 = .ok (.ifCond .ne 22, 3) := by decide +kernel
theorem d_Y_step_46 : decode prog_4_method_34_code 46 = .ok (.aload_n 0, 1) := by decide +kernel
theorem d_Y_step_47 : decode prog_4_method_34_code 47 = .ok (.iload_n 1, 1) := by decide +kernel
theorem d_Y_step_48 : decode prog_4_method_34_code 48 = .ok (.iload_n 3, 1) := by decide +kernel
theorem d_Y_step_49 : decode prog_4_method_34_code 49 = .ok (.ifCond .ne 7, 3) := by decide +kernel
theorem d_Y_step_52 : decode prog_4_method_34_code 52 = .ok (.iconst 1, 1) := by decide +kernel
theorem d_Y_step_53 : decode prog_4_method_34_code 53 = .ok (.goto 4, 3) := by decide +kernel
theorem d_Y_step_56 : decode prog_4_method_34_code 56 = .ok (.iconst 0, 1) := by decide +kernel
theorem d_Y_step_57 : decode prog_4_method_34_code 57 = .ok (.lconst 1, 1) := by decide +kernel
theorem d_Y_step_58 : decode prog_4_method_34_code 58 = .ok (.bipush (-100), 2) := by decide +kernel
theorem d_Y_step_60 : decode prog_4_method_34_code 60 = .ok (.iconst 0, 1) := by decide +kernel
theorem d_Y_step_61 : decode prog_4_method_34_code 61 = .ok (.invokevirtual 64, 3) := by decide +kernel
theorem d_Y_step_64 : decode prog_4_method_34_code 64 = .ok (.ireturn, 1) := by decide +kernel
theorem d_Y_step_65 : decode prog_4_method_34_code 65 = .ok (.iload_n 3, 1) := by decide +kernel
theorem d_Y_step_66 : decode prog_4_method_34_code 66 = .ok (.aload_n 0, 1) := by decide +kernel
theorem d_Y_step_67 : decode prog_4_method_34_code 67 = .ok (.getfield 17, 3) := by decide +kernel
theorem d_Y_step_70 : decode prog_4_method_34_code 70 = .ok (.iload_n 2, 1) := by decide +kernel
theorem d_Y_step_71 : decode prog_4_method_34_code 71 = .ok (.baload, 1) := by decide +kernel
theorem d_Y_step_72 : decode prog_4_method_34_code 72 = .ok (.if_icmp .eq 7, 3) := by decide +kernel
theorem d_Y_step_75 : decode prog_4_method_34_code 75 = .ok (.iconst 1, 1) := by decide +kernel
theorem d_Y_step_76 : decode prog_4_method_34_code 76 = .ok (.goto 4, 3) := by decide +kernel
theorem d_Y_step_79 : decode prog_4_method_34_code 79 = .ok (.iconst 0, 1) := by decide +kernel
theorem d_Y_step_80 : decode prog_4_method_34_code 80 = .ok (.istore 9, 2) := by decide +kernel
theorem d_Y_step_82 : decode prog_4_method_34_code 82 = .ok (.iconst 0, 1) := by decide +kernel
theorem d_Y_step_83 : decode prog_4_method_34_code 83 = .ok (.istore 10, 2) := by decide +kernel
theorem d_Y_step_85 : decode prog_4_method_34_code 85 = .ok (.lload 6, 2) := by decide +kernel
theorem d_Y_step_87 : decode prog_4_method_34_code 87 = .ok (.invokestatic 29, 3) := by decide +kernel
theorem d_Y_step_90 : decode prog_4_method_34_code 90 = .ok (.iload 5, 2) := by decide +kernel
theorem d_Y_step_92 : decode prog_4_method_34_code 92 = .ok (.if_icmp .ge 17, 3) := by decide +kernel
theorem d_Y_step_95 : decode prog_4_method_34_code 95 = .ok (.lload 6, 2) := by decide +kernel
theorem d_Y_step_97 : decode prog_4_method_34_code 97 = .ok (.ldc2_w 37, 3) := by decide +kernel
theorem d_Y_step_100 : decode prog_4_method_34_code 100 = .ok (.lmul, 1) := by decide +kernel
theorem d_Y_step_101 : decode prog_4_method_34_code 101 = .ok (.lstore 6, 2) := by decide +kernel
theorem d_Y_step_103 : decode prog_4_method_34_code 103 = .ok (.iinc 8 (-1), 3) := by decide +kernel
theorem d_Y_step_106 : decode prog_4_method_34_code 106 = .ok (.goto (-21), 3) := by decide +kernel
theorem d_Y_step_109 : decode prog_4_method_34_code 109 = .ok (.lload 6, 2) := by decide +kernel
theorem d_Y_step_111 : decode prog_4_method_34_code 111 = .ok (.invokestatic 29, 3) := by decide +kernel
theorem d_Y_step_114 : decode prog_4_method_34_code 114 = .ok (.iload 5, 2) := by decide +kernel
theorem d_Y_step_116 : decode prog_4_method_34_code 116 = .ok (.if_icmp .le 31, 3) := by decide +kernel
theorem d_Y_step_119 : decode prog_4_method_34_code 119 = .ok (.lload 6, 2) := by decide +kernel
theorem d_Y_step_121 : decode prog_4_method_34_code 121 = .ok (.ldc2_w 37, 3) := by decide +kernel
theorem d_Y_step_124 : decode prog_4_method_34_code 124 = .ok (.lrem, 1) := by decide +kernel
theorem d_Y_step_125 : decode prog_4_method_34_code 125 = .ok (.lconst 1, 1) := by decide +kernel
theorem d_Y_step_126 : decode prog_4_method_34_code 126 = .ok (.lcmp, 1) := by decide +kernel
theorem d_Y_step_127 : decode prog_4_method_34_code 127 = .ok (.ifCond .ne 6, 3) := by decide +kernel
theorem d_Y_step_130 : decode prog_4_method_34_code 130 = .ok (.iconst 1, 1) := by decide +kernel
theorem d_Y_step_131 : decode prog_4_method_34_code 131 = .ok (.istore 10, 2) := by decide +kernel
theorem d_Y_step_133 : decode prog_4_method_34_code 133 = .ok (.lload 6, 2) := by decide +kernel
theorem d_Y_step_135 : decode prog_4_method_34_code 135 = .ok (.ldc2_w 37, 3) := by decide +kernel
theorem d_Y_step_138 : decode prog_4_method_34_code 138 = .ok (.ldiv, 1) := by decide +kernel
theorem d_Y_step_139 : decode prog_4_method_34_code 139 = .ok (.lstore 6, 2) := by decide +kernel
theorem d_Y_step_141 : decode prog_4_method_34_code 141 = .ok (.iinc 8 1, 3) := by decide +kernel
theorem d_Y_step_144 : decode prog_4_method_34_code 144 = .ok (.goto (-35), 3) := by decide +kernel
theorem d_Y_step_147 : decode prog_4_method_34_code 147 = .ok (.iload 9, 2) := by decide +kernel
theorem d_Y_step_149 : decode prog_4_method_34_code 149 = .ok (.ifCond .eq 22, 3) := by decide +kernel
theorem d_Y_step_152 : decode prog_4_method_34_code 152 = .ok (.aload_n 0, 1) := by decide +kernel
theorem d_Y_step_153 : decode prog_4_method_34_code 153 = .ok (.iload_n 1, 1) := by decide +kernel
theorem d_Y_step_154 : decode prog_4_method_34_code 154 = .ok (.aload_n 0, 1) := by decide +kernel
theorem d_Y_step_155 : decode prog_4_method_34_code 155 = .ok (.getfield 17, 3) := by decide +kernel
theorem d_Y_step_158 : decode prog_4_method_34_code 158 = .ok (.iload_n 2, 1) := by decide +kernel
theorem d_Y_step_159 : decode prog_4_method_34_code 159 = .ok (.baload, 1) := by decide +kernel
theorem d_Y_step_160 : decode prog_4_method_34_code 160 = .ok (.lload 6, 2) := by decide +kernel
theorem d_Y_step_162 : decode prog_4_method_34_code 162 = .ok (.lconst 1, 1) := by decide +kernel
theorem d_Y_step_163 : decode prog_4_method_34_code 163 = .ok (.ladd, 1) := by decide +kernel
theorem d_Y_step_164 : decode prog_4_method_34_code 164 = .ok (.iload 8, 2) := by decide +kernel
theorem d_Y_step_166 : decode prog_4_method_34_code 166 = .ok (.iconst 0, 1) := by decide +kernel
theorem d_Y_step_167 : decode prog_4_method_34_code 167 = .ok (.invokevirtual 64, 3) := by decide +kernel
theorem d_Y_step_170 : decode prog_4_method_34_code 170 = .ok (.ireturn, 1) := by decide +kernel
theorem d_Y_step_171 : decode prog_4_method_34_code 171 = .ok (.iload 10, 2) := by decide +kernel
theorem d_Y_step_173 : decode prog_4_method_34_code 173 = .ok (.ifCond .eq 20, 3) := by decide +kernel
theorem d_Y_step_176 : decode prog_4_method_34_code 176 = .ok (.aload_n 0, 1) := by decide +kernel
theorem d_Y_step_177 : decode prog_4_method_34_code 177 = .ok (.iload_n 1, 1) := by decide +kernel
theorem d_Y_step_178 : decode prog_4_method_34_code 178 = .ok (.aload_n 0, 1) := by decide +kernel
theorem d_Y_step_179 : decode prog_4_method_34_code 179 = .ok (.getfield 17, 3) := by decide +kernel
theorem d_Y_step_182 : decode prog_4_method_34_code 182 = .ok (.iload_n 2, 1) := by decide +kernel
theorem d_Y_step_183 : decode prog_4_method_34_code 183 = .ok (.baload, 1) := by decide +kernel
theorem d_Y_step_184 : decode prog_4_method_34_code 184 = .ok (.lload 6, 2) := by decide +kernel
theorem d_Y_step_186 : decode prog_4_method_34_code 186 = .ok (.iload 8, 2) := by decide +kernel
theorem d_Y_step_188 : decode prog_4_method_34_code 188 = .ok (.iconst 0, 1) := by decide +kernel
theorem d_Y_step_189 : decode prog_4_method_34_code 189 = .ok (.invokevirtual 64, 3) := by decide +kernel
theorem d_Y_step_192 : decode prog_4_method_34_code 192 = .ok (.ireturn, 1) := by decide +kernel
theorem d_Y_step_193 : decode prog_4_method_34_code 193 = .ok (.lload 6, 2) := by decide +kernel
theorem d_Y_step_195 : decode prog_4_method_34_code 195 = .ok (.lconst 1, 1) := by decide +kernel
theorem d_Y_step_196 : decode prog_4_method_34_code 196 = .ok (.iload 5, 2) := by decide +kernel
theorem d_Y_step_198 : decode prog_4_method_34_code 198 = .ok (.iconst 1, 1) := by decide +kernel
theorem d_Y_step_199 : decode prog_4_method_34_code 199 = .ok (.isub, 1) := by decide +kernel
theorem d_Y_step_200 : decode prog_4_method_34_code 200 = .ok (.lshl, 1) := by decide +kernel
theorem d_Y_step_201 : decode prog_4_method_34_code 201 = .ok (.lcmp, 1) := by decide +kernel
theorem d_Y_step_202 : decode prog_4_method_34_code 202 = .ok (.ifCond .ne 27, 3) := by decide +kernel
theorem d_Y_step_205 : decode prog_4_method_34_code 205 = .ok (.aload_n 0, 1) := by decide +kernel
theorem d_Y_step_206 : decode prog_4_method_34_code 206 = .ok (.iload_n 1, 1) := by decide +kernel
theorem d_Y_step_207 : decode prog_4_method_34_code 207 = .ok (.aload_n 0, 1) := by decide +kernel
theorem d_Y_step_208 : decode prog_4_method_34_code 208 = .ok (.getfield 17, 3) := by decide +kernel
theorem d_Y_step_211 : decode prog_4_method_34_code 211 = .ok (.iload_n 2, 1) := by decide +kernel
theorem d_Y_step_212 : decode prog_4_method_34_code 212 = .ok (.baload, 1) := by decide +kernel
theorem d_Y_step_213 : decode prog_4_method_34_code 213 = .ok (.ldc2_w 37, 3) := by decide +kernel
theorem d_Y_step_216 : decode prog_4_method_34_code 216 = .ok (.lload 6, 2) := by decide +kernel
theorem d_Y_step_218 : decode prog_4_method_34_code 218 = .ok (.lmul, 1) := by decide +kernel
theorem d_Y_step_219 : decode prog_4_method_34_code 219 = .ok (.lconst 1, 1) := by decide +kernel
theorem d_Y_step_220 : decode prog_4_method_34_code 220 = .ok (.lsub, 1) := by decide +kernel
theorem d_Y_step_221 : decode prog_4_method_34_code 221 = .ok (.iload 8, 2) := by decide +kernel
theorem d_Y_step_223 : decode prog_4_method_34_code 223 = .ok (.iconst 1, 1) := by decide +kernel
theorem d_Y_step_224 : decode prog_4_method_34_code 224 = .ok (.isub, 1) := by decide +kernel
theorem d_Y_step_225 : decode prog_4_method_34_code 225 = .ok (.invokevirtual 148, 3) := by decide +kernel
theorem d_Y_step_228 : decode prog_4_method_34_code 228 = .ok (.ireturn, 1) := by decide +kernel
theorem d_Y_step_229 : decode prog_4_method_34_code 229 = .ok (.aload_n 0, 1) := by decide +kernel
theorem d_Y_step_230 : decode prog_4_method_34_code 230 = .ok (.iload_n 1, 1) := by decide +kernel
theorem d_Y_step_231 : decode prog_4_method_34_code 231 = .ok (.aload_n 0, 1) := by decide +kernel
theorem d_Y_step_232 : decode prog_4_method_34_code 232 = .ok (.getfield 17, 3) := by decide +kernel
theorem d_Y_step_235 : decode prog_4_method_34_code 235 = .ok (.iload_n 2, 1) := by decide +kernel
theorem d_Y_step_236 : decode prog_4_method_34_code 236 = .ok (.baload, 1) := by decide +kernel
theorem d_Y_step_237 : decode prog_4_method_34_code 237 = .ok (.lload 6, 2) := by decide +kernel
theorem d_Y_step_239 : decode prog_4_method_34_code 239 = .ok (.lconst 1, 1) := by decide +kernel
theorem d_Y_step_240 : decode prog_4_method_34_code 240 = .ok (.lsub, 1) := by decide +kernel
theorem d_Y_step_241 : decode prog_4_method_34_code 241 = .ok (.iload 8, 2) := by decide +kernel
theorem d_Y_step_243 : decode prog_4_method_34_code 243 = .ok (.invokevirtual 148, 3) := by decide +kernel
theorem d_Y_step_246 : decode prog_4_method_34_code 246 = .ok (.ireturn, 1) := by decide +kernel
theorem d_Y_cube_0 : decode prog_4_method_36_code 0 = .ok (.aload_n 0, 1) := by decide +kernel
theorem d_Y_cube_1 : decode prog_4_method_36_code 1 = .ok (.getfield 24, 3) := by decide +kernel
theorem d_Y_cube_4 : decode prog_4_method_36_code 4 = .ok (.invokestatic 116, 3) := by decide +kernel
theorem d_Y_cube_7 : decode prog_4_method_36_code 7 = .ok (.aload_n 0, 1) := by decide +kernel
theorem d_Y_cube_8 : decode prog_4_method_36_code 8 = .ok (.getfield 24, 3) := by decide +kernel
theorem d_Y_cube_11 : decode prog_4_method_36_code 11 = .ok (.lload_n 1, 1) := by decide +kernel
theorem d_Y_cube_12 : decode prog_4_method_36_code 12 = .ok (.lload_n 1, 1) := by decide +kernel
theorem d_Y_cube_13 : decode prog_4_method_36_code 13 = .ok (.iconst 0, 1) := by decide +kernel
theorem d_Y_cube_14 : decode prog_4_method_36_code 14 = .ok (.invokestatic 132, 3) := by decide +kernel
theorem d_Y_cube_17 : decode prog_4_method_36_code 17 = .ok (.aload_n 0, 1) := by decide +kernel
theorem d_Y_cube_18 : decode prog_4_method_36_code 18 = .ok (.getfield 21, 3) := by decide +kernel
theorem d_Y_cube_21 : decode prog_4_method_36_code 21 = .ok (.invokestatic 116, 3) := by decide +kernel
theorem d_Y_cube_24 : decode prog_4_method_36_code 24 = .ok (.iconst 0, 1) := by decide +kernel
theorem d_Y_cube_25 : decode prog_4_method_36_code 25 = .ok (.istore 4, 2) := by decide +kernel
theorem d_Y_cube_27 : decode prog_4_method_36_code 27 = .ok (.iload 4, 2) := by decide +kernel
theorem d_Y_cube_29 : decode prog_4_method_36_code 29 = .ok (.iconst 4, 1) := by decide +kernel
theorem d_Y_cube_30 : decode prog_4_method_36_code 30 = .ok (.if_icmp .ge 67, 3) := by decide +kernel
theorem d_Y_cube_33 : decode prog_4_method_36_code 33 = .ok (.aload_n 0, 1) := by decide +kernel
theorem d_Y_cube_34 : decode prog_4_method_36_code 34 = .ok (.getfield 21, 3) := by decide +kernel
theorem d_Y_cube_37 : decode prog_4_method_36_code 37 = .ok (.aload_n 0, 1) := by decide +kernel
theorem d_Y_cube_38 : decode prog_4_method_36_code 38 = .ok (.getfield 24, 3) := by decide +kernel
theorem d_Y_cube_41 : decode prog_4_method_36_code 41 = .ok (.iload 4, 2) := by decide +kernel
theorem d_Y_cube_43 : decode prog_4_method_36_code 43 = .ok (.iaload, 1) := by decide +kernel
theorem d_Y_cube_44 : decode prog_4_method_36_code 44 = .ok (.i2l, 1) := by decide +kernel
theorem d_Y_cube_45 : decode prog_4_method_36_code 45 = .ok (.lload_n 1, 1) := by decide +kernel
theorem d_Y_cube_46 : decode prog_4_method_36_code 46 = .ok (.ldc2_w 78, 3) := by decide +kernel
theorem d_Y_cube_49 : decode prog_4_method_36_code 49 = .ok (.land, 1) := by decide +kernel
theorem d_Y_cube_50 : decode prog_4_method_36_code 50 = .ok (.lmul, 1) := by decide +kernel
theorem d_Y_cube_51 : decode prog_4_method_36_code 51 = .ok (.bipush 28, 2) := by decide +kernel
theorem d_Y_cube_53 : decode prog_4_method_36_code 53 = .ok (.iload 4, 2) := by decide +kernel
theorem d_Y_cube_55 : decode prog_4_method_36_code 55 = .ok (.imul, 1) := by decide +kernel
theorem d_Y_cube_56 : decode prog_4_method_36_code 56 = .ok (.iload_n 3, 1) := by decide +kernel
theorem d_Y_cube_57 : decode prog_4_method_36_code 57 = .ok (.iadd, 1) := by decide +kernel
theorem d_Y_cube_58 : decode prog_4_method_36_code 58 = .ok (.invokestatic 80, 3) := by decide +kernel
theorem d_Y_cube_61 : decode prog_4_method_36_code 61 = .ok (.aload_n 0, 1) := by decide +kernel
theorem d_Y_cube_62 : decode prog_4_method_36_code 62 = .ok (.getfield 21, 3) := by decide +kernel
theorem d_Y_cube_65 : decode prog_4_method_36_code 65 = .ok (.aload_n 0, 1) := by decide +kernel
theorem d_Y_cube_66 : decode prog_4_method_36_code 66 = .ok (.getfield 24, 3) := by decide +kernel
theorem d_Y_cube_69 : decode prog_4_method_36_code 69 = .ok (.iload 4, 2) := by decide +kernel
theorem d_Y_cube_71 : decode prog_4_method_36_code 71 = .ok (.iaload, 1) := by decide +kernel
theorem d_Y_cube_72 : decode prog_4_method_36_code 72 = .ok (.i2l, 1) := by decide +kernel
theorem d_Y_cube_73 : decode prog_4_method_36_code 73 = .ok (.lload_n 1, 1) := by decide +kernel
theorem d_Y_cube_74 : decode prog_4_method_36_code 74 = .ok (.bipush 27, 2) := by decide +kernel
theorem d_Y_cube_76 : decode prog_4_method_36_code 76 = .ok (.lshr, 1) := by decide +kernel
theorem d_Y_cube_77 : decode prog_4_method_36_code 77 = .ok (.lmul, 1) := by decide +kernel
theorem d_Y_cube_78 : decode prog_4_method_36_code 78 = .ok (.bipush 28, 2) := by decide +kernel
theorem d_Y_cube_80 : decode prog_4_method_36_code 80 = .ok (.iload 4, 2) := by decide +kernel
theorem d_Y_cube_82 : decode prog_4_method_36_code 82 = .ok (.imul, 1) := by decide +kernel
theorem d_Y_cube_83 : decode prog_4_method_36_code 83 = .ok (.bipush 27, 2) := by decide +kernel
theorem d_Y_cube_85 : decode prog_4_method_36_code 85 = .ok (.iadd, 1) := by decide +kernel
theorem d_Y_cube_86 : decode prog_4_method_36_code 86 = .ok (.iload_n 3, 1) := by decide +kernel
theorem d_Y_cube_87 : decode prog_4_method_36_code 87 = .ok (.iadd, 1) := by decide +kernel
theorem d_Y_cube_88 : decode prog_4_method_36_code 88 = .ok (.invokestatic 80, 3) := by decide +kernel
theorem d_Y_cube_91 : decode prog_4_method_36_code 91 = .ok (.iinc 4 1, 3) := by decide +kernel
theorem d_Y_cube_94 : decode prog_4_method_36_code 94 = .ok (.goto (-67), 3) := by decide +kernel
theorem d_Y_cube_97 : decode prog_4_method_36_code 97 = .ok (.return_, 1) := by decide +kernel
theorem d_Y_cubeAgainst_0 : decode prog_4_method_37_code 0 = .ok (.iconst 3, 1) := by decide +kernel
theorem d_Y_cubeAgainst_1 : decode prog_4_method_37_code 1 = .ok (.iload_n 3, 1) := by decide +kernel
theorem d_Y_cubeAgainst_2 : decode prog_4_method_37_code 2 = .ok (.imul, 1) := by decide +kernel
theorem d_Y_cubeAgainst_3 : decode prog_4_method_37_code 3 = .ok (.istore 5, 2) := by decide +kernel
theorem d_Y_cubeAgainst_5 : decode prog_4_method_37_code 5 = .ok (.aload_n 0, 1) := by decide +kernel
theorem d_Y_cubeAgainst_6 : decode prog_4_method_37_code 6 = .ok (.getfield 13, 3) := by decide +kernel
theorem d_Y_cubeAgainst_9 : decode prog_4_method_37_code 9 = .ok (.iload 4, 2) := by decide +kernel
theorem d_Y_cubeAgainst_11 : decode prog_4_method_37_code 11 = .ok (.iaload, 1) := by decide +kernel
theorem d_Y_cubeAgainst_12 : decode prog_4_method_37_code 12 = .ok (.istore 6, 2) := by decide +kernel
theorem d_Y_cubeAgainst_14 : decode prog_4_method_37_code 14 = .ok (.iload 5, 2) := by decide +kernel
theorem d_Y_cubeAgainst_16 : decode prog_4_method_37_code 16 = .ok (.iload 6, 2) := by decide +kernel
theorem d_Y_cubeAgainst_18 : decode prog_4_method_37_code 18 = .ok (.if_icmp .ge 8, 3) := by decide +kernel
theorem d_Y_cubeAgainst_21 : decode prog_4_method_37_code 21 = .ok (.iload 5, 2) := by decide +kernel
theorem d_Y_cubeAgainst_23 : decode prog_4_method_37_code 23 = .ok (.goto 5, 3) := by decide +kernel
theorem d_Y_cubeAgainst_26 : decode prog_4_method_37_code 26 = .ok (.iload 6, 2) := by decide +kernel
theorem d_Y_cubeAgainst_28 : decode prog_4_method_37_code 28 = .ok (.istore 7, 2) := by decide +kernel
theorem d_Y_cubeAgainst_30 : decode prog_4_method_37_code 30 = .ok (.aload_n 0, 1) := by decide +kernel
theorem d_Y_cubeAgainst_31 : decode prog_4_method_37_code 31 = .ok (.lload_n 1, 1) := by decide +kernel
theorem d_Y_cubeAgainst_32 : decode prog_4_method_37_code 32 = .ok (.iload 5, 2) := by decide +kernel
theorem d_Y_cubeAgainst_34 : decode prog_4_method_37_code 34 = .ok (.iload 7, 2) := by decide +kernel
theorem d_Y_cubeAgainst_36 : decode prog_4_method_37_code 36 = .ok (.isub, 1) := by decide +kernel
theorem d_Y_cubeAgainst_37 : decode prog_4_method_37_code 37 = .ok (.invokevirtual 152, 3) := by decide +kernel
theorem d_Y_cubeAgainst_40 : decode prog_4_method_37_code 40 = .ok (.aload_n 0, 1) := by decide +kernel
theorem d_Y_cubeAgainst_41 : decode prog_4_method_37_code 41 = .ok (.getfield 24, 3) := by decide +kernel
theorem d_Y_cubeAgainst_44 : decode prog_4_method_37_code 44 = .ok (.invokestatic 116, 3) := by decide +kernel
theorem d_Y_cubeAgainst_47 : decode prog_4_method_37_code 47 = .ok (.aload_n 0, 1) := by decide +kernel
theorem d_Y_cubeAgainst_48 : decode prog_4_method_37_code 48 = .ok (.getfield 24, 3) := by decide +kernel
theorem d_Y_cubeAgainst_51 : decode prog_4_method_37_code 51 = .ok (.aload_n 0, 1) := by decide +kernel
theorem d_Y_cubeAgainst_52 : decode prog_4_method_37_code 52 = .ok (.getfield 7, 3) := by decide +kernel
theorem d_Y_cubeAgainst_55 : decode prog_4_method_37_code 55 = .ok (.iload 4, 2) := by decide +kernel
theorem d_Y_cubeAgainst_57 : decode prog_4_method_37_code 57 = .ok (.laload, 1) := by decide +kernel
theorem d_Y_cubeAgainst_58 : decode prog_4_method_37_code 58 = .ok (.iload 6, 2) := by decide +kernel
theorem d_Y_cubeAgainst_60 : decode prog_4_method_37_code 60 = .ok (.iload 7, 2) := by decide +kernel
theorem d_Y_cubeAgainst_62 : decode prog_4_method_37_code 62 = .ok (.isub, 1) := by decide +kernel
theorem d_Y_cubeAgainst_63 : decode prog_4_method_37_code 63 = .ok (.invokestatic 80, 3) := by decide +kernel
theorem d_Y_cubeAgainst_66 : decode prog_4_method_37_code 66 = .ok (.aload_n 0, 1) := by decide +kernel
theorem d_Y_cubeAgainst_67 : decode prog_4_method_37_code 67 = .ok (.getfield 21, 3) := by decide +kernel
theorem d_Y_cubeAgainst_70 : decode prog_4_method_37_code 70 = .ok (.aload_n 0, 1) := by decide +kernel
theorem d_Y_cubeAgainst_71 : decode prog_4_method_37_code 71 = .ok (.getfield 24, 3) := by decide +kernel
theorem d_Y_cubeAgainst_74 : decode prog_4_method_37_code 74 = .ok (.invokestatic 85, 3) := by decide +kernel
theorem d_Y_cubeAgainst_77 : decode prog_4_method_37_code 77 = .ok (.ireturn, 1) := by decide +kernel
theorem d_Y_cubeRoot_0 : decode prog_4_method_38_code 0 = .ok (.iload_n 1, 1) := by decide +kernel
theorem d_Y_cubeRoot_1 : decode prog_4_method_38_code 1 = .ok (.invokestatic 101, 3) := by decide +kernel
theorem d_Y_cubeRoot_4 : decode prog_4_method_38_code 4 = .ok (.ifCond .ne 10, 3) := by decide +kernel
theorem d_Y_cubeRoot_7 : decode prog_4_method_38_code 7 = .ok (.iload_n 2, 1) := by decide +kernel
theorem d_Y_cubeRoot_8 : decode prog_4_method_38_code 8 = .ok (.invokestatic 101, 3) := by decide +kernel
theorem d_Y_cubeRoot_11 : decode prog_4_method_38_code 11 = .ok (.ifCond .eq 5, 3) := by decide +kernel
theorem d_Y_cubeRoot_14 : decode prog_4_method_38_code 14 = .ok (.iconst (-1), 1) := by decide +kernel
theorem d_Y_cubeRoot_15 : decode prog_4_method_38_code 15 = .ok (.ireturn, 1) := by decide +kernel
theorem d_Y_cubeRoot_16 : decode prog_4_method_38_code 16 = .ok (.aload_n 0, 1) := by decide +kernel
theorem d_Y_cubeRoot_17 : decode prog_4_method_38_code 17 = .ok (.getfield 7, 3) := by decide +kernel
theorem d_Y_cubeRoot_20 : decode prog_4_method_38_code 20 = .ok (.iload_n 2, 1) := by decide +kernel
theorem d_Y_cubeRoot_21 : decode prog_4_method_38_code 21 = .ok (.laload, 1) := by decide +kernel
theorem d_Y_cubeRoot_22 : decode prog_4_method_38_code 22 = .ok (.lconst 0, 1) := by decide +kernel
theorem d_Y_cubeRoot_23 : decode prog_4_method_38_code 23 = .ok (.lcmp, 1) := by decide +kernel
theorem d_Y_cubeRoot_24 : decode prog_4_method_38_code 24 = .ok (.ifCond .ne 20, 3) := by decide +kernel
theorem d_Y_cubeRoot_27 : decode prog_4_method_38_code 27 = .ok (.aload_n 0, 1) := by decide +kernel
theorem d_Y_cubeRoot_28 : decode prog_4_method_38_code 28 = .ok (.getfield 7, 3) := by decide +kernel
theorem d_Y_cubeRoot_31 : decode prog_4_method_38_code 31 = .ok (.iload_n 1, 1) := by decide +kernel
theorem d_Y_cubeRoot_32 : decode prog_4_method_38_code 32 = .ok (.laload, 1) := by decide +kernel
theorem d_Y_cubeRoot_33 : decode prog_4_method_38_code 33 = .ok (.lconst 0, 1) := by decide +kernel
theorem d_Y_cubeRoot_34 : decode prog_4_method_38_code 34 = .ok (.lcmp, 1) := by decide +kernel
theorem d_Y_cubeRoot_35 : decode prog_4_method_38_code 35 = .ok (.ifCond .ne 7, 3) := by decide +kernel
theorem d_Y_cubeRoot_38 : decode prog_4_method_38_code 38 = .ok (.iconst 1, 1) := by decide +kernel
theorem d_Y_cubeRoot_39 : decode prog_4_method_38_code 39 = .ok (.goto 4, 3) := by decide +kernel
theorem d_Y_cubeRoot_42 : decode prog_4_method_38_code 42 = .ok (.iconst 0, 1) := by decide +kernel
theorem d_Y_cubeRoot_43 : decode prog_4_method_38_code 43 = .ok (.ireturn, 1) := by decide +kernel
theorem d_Y_cubeRoot_44 : decode prog_4_method_38_code 44 = .ok (.aload_n 0, 1) := by decide +kernel
theorem d_Y_cubeRoot_45 : decode prog_4_method_38_code 45 = .ok (.getfield 7, 3) := by decide +kernel
theorem d_Y_cubeRoot_48 : decode prog_4_method_38_code 48 = .ok (.iload_n 1, 1) := by decide +kernel
theorem d_Y_cubeRoot_49 : decode prog_4_method_38_code 49 = .ok (.laload, 1) := by decide +kernel
theorem d_Y_cubeRoot_50 : decode prog_4_method_38_code 50 = .ok (.lconst 0, 1) := by decide +kernel
theorem d_Y_cubeRoot_51 : decode prog_4_method_38_code 51 = .ok (.lcmp, 1) := by decide +kernel
theorem d_Y_cubeRoot_52 : decode prog_4_method_38_code 52 = .ok (.ifCond .eq 18, 3) := by decide +kernel
theorem d_Y_cubeRoot_55 : decode prog_4_method_38_code 55 = .ok (.aload_n 0, 1) := by decide +kernel
theorem d_Y_cubeRoot_56 : decode prog_4_method_38_code 56 = .ok (.getfield 17, 3) := by decide +kernel
theorem d_Y_cubeRoot_59 : decode prog_4_method_38_code 59 = .ok (.iload_n 1, 1) := by decide +kernel
theorem d_Y_cubeRoot_60 : decode prog_4_method_38_code 60 = .ok (.baload, 1) := by decide +kernel
theorem d_Y_cubeRoot_61 : decode prog_4_method_38_code 61 = .ok (.aload_n 0, 1) := by decide +kernel
theorem d_Y_cubeRoot_62 : decode prog_4_method_38_code 62 = .ok (.getfield 17, 3) := by decide +kernel
theorem d_Y_cubeRoot_65 : decode prog_4_method_38_code 65 = .ok (.iload_n 2, 1) := by decide +kernel
theorem d_Y_cubeRoot_66 : decode prog_4_method_38_code 66 = .ok (.baload, 1) := by decide +kernel
theorem d_Y_cubeRoot_67 : decode prog_4_method_38_code 67 = .ok (.if_icmp .eq 5, 3) := by decide +kernel
theorem d_Y_cubeRoot_70 : decode prog_4_method_38_code 70 = .ok (.iconst 0, 1) := by decide +kernel
theorem d_Y_cubeRoot_71 : decode prog_4_method_38_code 71 = .ok (.ireturn, 1) := by decide +kernel
theorem d_Y_cubeRoot_72 : decode prog_4_method_38_code 72 = .ok (.aload_n 0, 1) := by decide +kernel
theorem d_Y_cubeRoot_73 : decode prog_4_method_38_code 73 = .ok (.getfield 7, 3) := by decide +kernel
theorem d_Y_cubeRoot_76 : decode prog_4_method_38_code 76 = .ok (.iload_n 2, 1) := by decide +kernel
theorem d_Y_cubeRoot_77 : decode prog_4_method_38_code 77 = .ok (.laload, 1) := by decide +kernel
theorem d_Y_cubeRoot_78 : decode prog_4_method_38_code 78 = .ok (.lstore_n 3, 1) := by decide +kernel
theorem d_Y_cubeRoot_79 : decode prog_4_method_38_code 79 = .ok (.aload_n 0, 1) := by decide +kernel
theorem d_Y_cubeRoot_80 : decode prog_4_method_38_code 80 = .ok (.getfield 13, 3) := by decide +kernel
theorem d_Y_cubeRoot_83 : decode prog_4_method_38_code 83 = .ok (.iload_n 2, 1) := by decide +kernel
theorem d_Y_cubeRoot_84 : decode prog_4_method_38_code 84 = .ok (.iaload, 1) := by decide +kernel
theorem d_Y_cubeRoot_85 : decode prog_4_method_38_code 85 = .ok (.istore 5, 2) := by decide +kernel
theorem d_Y_cubeRoot_87 : decode prog_4_method_38_code 87 = .ok (.lload_n 3, 1) := by decide +kernel
theorem d_Y_cubeRoot_88 : decode prog_4_method_38_code 88 = .ok (.invokestatic 29, 3) := by decide +kernel
theorem d_Y_cubeRoot_91 : decode prog_4_method_38_code 91 = .ok (.bipush 53, 2) := by decide +kernel
theorem d_Y_cubeRoot_93 : decode prog_4_method_38_code 93 = .ok (.if_icmp .ge 15, 3) := by decide +kernel
theorem d_Y_cubeRoot_96 : decode prog_4_method_38_code 96 = .ok (.lload_n 3, 1) := by decide +kernel
theorem d_Y_cubeRoot_97 : decode prog_4_method_38_code 97 = .ok (.ldc2_w 37, 3) := by decide +kernel
theorem d_Y_cubeRoot_100 : decode prog_4_method_38_code 100 = .ok (.lmul, 1) := by decide +kernel
theorem d_Y_cubeRoot_101 : decode prog_4_method_38_code 101 = .ok (.lstore_n 3, 1) := by decide +kernel
theorem d_Y_cubeRoot_102 : decode prog_4_method_38_code 102 = .ok (.iinc 5 (-1), 3) := by decide +kernel
theorem d_Y_cubeRoot_105 : decode prog_4_method_38_code 105 = .ok (.goto (-18), 3) := by decide +kernel
theorem d_Y_cubeRoot_108 : decode prog_4_method_38_code 108 = .ok (.aload_n 0, 1) := by decide +kernel
theorem d_Y_cubeRoot_109 : decode prog_4_method_38_code 109 = .ok (.lload_n 3, 1) := by decide +kernel
theorem d_Y_cubeRoot_110 : decode prog_4_method_38_code 110 = .ok (.lconst 1, 1) := by decide +kernel
theorem d_Y_cubeRoot_111 : decode prog_4_method_38_code 111 = .ok (.lsub, 1) := by decide +kernel
theorem d_Y_cubeRoot_112 : decode prog_4_method_38_code 112 = .ok (.iload 5, 2) := by decide +kernel
theorem d_Y_cubeRoot_114 : decode prog_4_method_38_code 114 = .ok (.iload_n 1, 1) := by decide +kernel
theorem d_Y_cubeRoot_115 : decode prog_4_method_38_code 115 = .ok (.invokevirtual 156, 3) := by decide +kernel
theorem d_Y_cubeRoot_118 : decode prog_4_method_38_code 118 = .ok (.ifCond .ge 20, 3) := by decide +kernel
theorem d_Y_cubeRoot_121 : decode prog_4_method_38_code 121 = .ok (.aload_n 0, 1) := by decide +kernel
theorem d_Y_cubeRoot_122 : decode prog_4_method_38_code 122 = .ok (.lload_n 3, 1) := by decide +kernel
theorem d_Y_cubeRoot_123 : decode prog_4_method_38_code 123 = .ok (.lconst 1, 1) := by decide +kernel
theorem d_Y_cubeRoot_124 : decode prog_4_method_38_code 124 = .ok (.ladd, 1) := by decide +kernel
theorem d_Y_cubeRoot_125 : decode prog_4_method_38_code 125 = .ok (.iload 5, 2) := by decide +kernel
theorem d_Y_cubeRoot_127 : decode prog_4_method_38_code 127 = .ok (.iload_n 1, 1) := by decide +kernel
theorem d_Y_cubeRoot_128 : decode prog_4_method_38_code 128 = .ok (.invokevirtual 156, 3) := by decide +kernel
theorem d_Y_cubeRoot_131 : decode prog_4_method_38_code 131 = .ok (.ifCond .le 7, 3) := by decide +kernel
theorem d_Y_cubeRoot_134 : decode prog_4_method_38_code 134 = .ok (.iconst 1, 1) := by decide +kernel
theorem d_Y_cubeRoot_135 : decode prog_4_method_38_code 135 = .ok (.goto 4, 3) := by decide +kernel
theorem d_Y_cubeRoot_138 : decode prog_4_method_38_code 138 = .ok (.iconst 0, 1) := by decide +kernel
theorem d_Y_cubeRoot_139 : decode prog_4_method_38_code 139 = .ok (.ireturn, 1) := by decide +kernel
theorem d_Y_compare_0 : decode prog_4_method_39_code 0 = .ok (.iload_n 1, 1) := by decide +kernel
theorem d_Y_compare_1 : decode prog_4_method_39_code 1 = .ok (.invokestatic 101, 3) := by decide +kernel
theorem d_Y_compare_4 : decode prog_4_method_39_code 4 = .ok (.ifCond .ne 10, 3) := by decide +kernel
theorem d_Y_compare_7 : decode prog_4_method_39_code 7 = .ok (.iload_n 2, 1) := by decide +kernel
theorem d_Y_compare_8 : decode prog_4_method_39_code 8 = .ok (.invokestatic 101, 3) := by decide +kernel
theorem d_Y_compare_11 : decode prog_4_method_39_code 11 = .ok (.ifCond .eq 6, 3) := by decide +kernel
theorem d_Y_compare_14 : decode prog_4_method_39_code 14 = .ok (.bipush (-2), 2) := by decide +kernel
theorem d_Y_compare_16 : decode prog_4_method_39_code 16 = .ok (.ireturn, 1) := by decide +kernel
theorem d_Y_compare_17 : decode prog_4_method_39_code 17 = .ok (.aload_n 0, 1) := by decide +kernel
theorem d_Y_compare_18 : decode prog_4_method_39_code 18 = .ok (.getfield 17, 3) := by decide +kernel
theorem d_Y_compare_21 : decode prog_4_method_39_code 21 = .ok (.iload_n 1, 1) := by decide +kernel
theorem d_Y_compare_22 : decode prog_4_method_39_code 22 = .ok (.baload, 1) := by decide +kernel
theorem d_Y_compare_23 : decode prog_4_method_39_code 23 = .ok (.aload_n 0, 1) := by decide +kernel
theorem d_Y_compare_24 : decode prog_4_method_39_code 24 = .ok (.getfield 17, 3) := by decide +kernel
theorem d_Y_compare_27 : decode prog_4_method_39_code 27 = .ok (.iload_n 2, 1) := by decide +kernel
theorem d_Y_compare_28 : decode prog_4_method_39_code 28 = .ok (.baload, 1) := by decide +kernel
theorem d_Y_compare_29 : decode prog_4_method_39_code 29 = .ok (.if_icmp .eq 18, 3) := by decide +kernel
theorem d_Y_compare_32 : decode prog_4_method_39_code 32 = .ok (.aload_n 0, 1) := by decide +kernel
theorem d_Y_compare_33 : decode prog_4_method_39_code 33 = .ok (.getfield 17, 3) := by decide +kernel
theorem d_Y_compare_36 : decode prog_4_method_39_code 36 = .ok (.iload_n 1, 1) := by decide +kernel
theorem d_Y_compare_37 : decode prog_4_method_39_code 37 = .ok (.baload, 1) := by decide +kernel
theorem d_Y_compare_38 : decode prog_4_method_39_code 38 = .ok (.ifCond .eq 7, 3) := by decide +kernel
theorem d_Y_compare_41 : decode prog_4_method_39_code 41 = .ok (.iconst (-1), 1) := by decide +kernel
theorem d_Y_compare_42 : decode prog_4_method_39_code 42 = .ok (.goto 4, 3) := by decide +kernel
theorem d_Y_compare_45 : decode prog_4_method_39_code 45 = .ok (.iconst 1, 1) := by decide +kernel
theorem d_Y_compare_46 : decode prog_4_method_39_code 46 = .ok (.ireturn, 1) := by decide +kernel
theorem d_Y_compare_47 : decode prog_4_method_39_code 47 = .ok (.aload_n 0, 1) := by decide +kernel
theorem d_Y_compare_48 : decode prog_4_method_39_code 48 = .ok (.iload_n 1, 1) := by decide +kernel
theorem d_Y_compare_49 : decode prog_4_method_39_code 49 = .ok (.iload_n 2, 1) := by decide +kernel
theorem d_Y_compare_50 : decode prog_4_method_39_code 50 = .ok (.iconst 0, 1) := by decide +kernel
theorem d_Y_compare_51 : decode prog_4_method_39_code 51 = .ok (.invokevirtual 144, 3) := by decide +kernel
theorem d_Y_compare_54 : decode prog_4_method_39_code 54 = .ok (.istore_n 3, 1) := by decide +kernel
theorem d_Y_compare_55 : decode prog_4_method_39_code 55 = .ok (.aload_n 0, 1) := by decide +kernel
theorem d_Y_compare_56 : decode prog_4_method_39_code 56 = .ok (.getfield 17, 3) := by decide +kernel
theorem d_Y_compare_59 : decode prog_4_method_39_code 59 = .ok (.iload_n 1, 1) := by decide +kernel
theorem d_Y_compare_60 : decode prog_4_method_39_code 60 = .ok (.baload, 1) := by decide +kernel
theorem d_Y_compare_61 : decode prog_4_method_39_code 61 = .ok (.ifCond .eq 8, 3) := by decide +kernel
theorem d_Y_compare_64 : decode prog_4_method_39_code 64 = .ok (.iload_n 3, 1) := by decide +kernel
theorem d_Y_compare_65 : decode prog_4_method_39_code 65 = .ok (.ineg, 1) := by decide +kernel
theorem d_Y_compare_66 : decode prog_4_method_39_code 66 = .ok (.goto 4, 3) := by decide +kernel
theorem d_Y_compare_69 : decode prog_4_method_39_code 69 = .ok (.iload_n 3, 1) := by decide +kernel
theorem d_Y_compare_70 : decode prog_4_method_39_code 70 = .ok (.ireturn, 1) := by decide +kernel
theorem d_Y_odd_0 : decode prog_4_method_40_code 0 = .ok (.iload_n 1, 1) := by decide +kernel
theorem d_Y_odd_1 : decode prog_4_method_40_code 1 = .ok (.invokestatic 101, 3) := by decide +kernel
theorem d_Y_odd_4 : decode prog_4_method_40_code 4 = .ok (.ifCond .eq 7, 3) := by decide +kernel
theorem d_Y_odd_7 : decode prog_4_method_40_code 7 = .ok (.ldc2_w 160, 3) := by decide +kernel
theorem d_Y_odd_10 : decode prog_4_method_40_code 10 = .ok (.lreturn, 1) := by decide +kernel
theorem d_Y_odd_11 : decode prog_4_method_40_code 11 = .ok (.aload_n 0, 1) := by decide +kernel
theorem d_Y_odd_12 : decode prog_4_method_40_code 12 = .ok (.getfield 17, 3) := by decide +kernel
theorem d_Y_odd_15 : decode prog_4_method_40_code 15 = .ok (.iload_n 1, 1) := by decide +kernel
theorem d_Y_odd_16 : decode prog_4_method_40_code 16 = .ok (.baload, 1) := by decide +kernel
theorem d_Y_odd_17 : decode prog_4_method_40_code 17 = .ok (.ifCond .eq 13, 3) := by decide +kernel
theorem d_Y_odd_20 : decode prog_4_method_40_code 20 = .ok (.aload_n 0, 1) := by decide +kernel
theorem d_Y_odd_21 : decode prog_4_method_40_code 21 = .ok (.getfield 7, 3) := by decide +kernel
theorem d_Y_odd_24 : decode prog_4_method_40_code 24 = .ok (.iload_n 1, 1) := by decide +kernel
theorem d_Y_odd_25 : decode prog_4_method_40_code 25 = .ok (.laload, 1) := by decide +kernel
theorem d_Y_odd_26 : decode prog_4_method_40_code 26 = .ok (.lneg, 1) := by decide +kernel
theorem d_Y_odd_27 : decode prog_4_method_40_code 27 = .ok (.goto 9, 3) := by decide +kernel
theorem d_Y_odd_30 : decode prog_4_method_40_code 30 = .ok (.aload_n 0, 1) := by decide +kernel
theorem d_Y_odd_31 : decode prog_4_method_40_code 31 = .ok (.getfield 7, 3) := by decide +kernel
theorem d_Y_odd_34 : decode prog_4_method_40_code 34 = .ok (.iload_n 1, 1) := by decide +kernel
theorem d_Y_odd_35 : decode prog_4_method_40_code 35 = .ok (.laload, 1) := by decide +kernel
theorem d_Y_odd_36 : decode prog_4_method_40_code 36 = .ok (.lreturn, 1) := by decide +kernel
theorem d_Y_exponent_0 : decode prog_4_method_41_code 0 = .ok (.iload_n 1, 1) := by decide +kernel
theorem d_Y_exponent_1 : decode prog_4_method_41_code 1 = .ok (.invokestatic 101, 3) := by decide +kernel
theorem d_Y_exponent_4 : decode prog_4_method_41_code 4 = .ok (.ifCond .eq 9, 3) := by decide +kernel
theorem d_Y_exponent_7 : decode prog_4_method_41_code 7 = .ok (.ldc2_w 160, 3) := by decide +kernel
theorem d_Y_exponent_10 : decode prog_4_method_41_code 10 = .ok (.goto 10, 3) := by decide +kernel
theorem d_Y_exponent_13 : decode prog_4_method_41_code 13 = .ok (.aload_n 0, 1) := by decide +kernel
theorem d_Y_exponent_14 : decode prog_4_method_41_code 14 = .ok (.getfield 13, 3) := by decide +kernel
theorem d_Y_exponent_17 : decode prog_4_method_41_code 17 = .ok (.iload_n 1, 1) := by decide +kernel
theorem d_Y_exponent_18 : decode prog_4_method_41_code 18 = .ok (.iaload, 1) := by decide +kernel
theorem d_Y_exponent_19 : decode prog_4_method_41_code 19 = .ok (.i2l, 1) := by decide +kernel
theorem d_Y_exponent_20 : decode prog_4_method_41_code 20 = .ok (.lreturn, 1) := by decide +kernel
theorem d_Y_whole_0 : decode prog_4_method_42_code 0 = .ok (.iload_n 1, 1) := by decide +kernel
theorem d_Y_whole_1 : decode prog_4_method_42_code 1 = .ok (.invokestatic 101, 3) := by decide +kernel
theorem d_Y_whole_4 : decode prog_4_method_42_code 4 = .ok (.ifCond .eq 7, 3) := by decide +kernel
theorem d_Y_whole_7 : decode prog_4_method_42_code 7 = .ok (.ldc2_w 160, 3) := by decide +kernel
theorem d_Y_whole_10 : decode prog_4_method_42_code 10 = .ok (.lreturn, 1) := by decide +kernel
theorem d_Y_whole_11 : decode prog_4_method_42_code 11 = .ok (.iload_n 2, 1) := by decide +kernel
theorem d_Y_whole_12 : decode prog_4_method_42_code 12 = .ok (.ifCond .eq 8, 3) := by decide +kernel
theorem d_Y_whole_15 : decode prog_4_method_42_code 15 = .ok (.bipush 63, 2) := by decide +kernel
theorem d_Y_whole_17 : decode prog_4_method_42_code 17 = .ok (.goto 5, 3) := by decide +kernel
theorem d_Y_whole_20 : decode prog_4_method_42_code 20 = .ok (.bipush 31, 2) := by decide +kernel
theorem d_Y_whole_22 : decode prog_4_method_42_code 22 = .ok (.istore_n 3, 1) := by decide +kernel
theorem d_Y_whole_23 : decode prog_4_method_42_code 23 = .ok (.aload_n 0, 1) := by decide +kernel
theorem d_Y_whole_24 : decode prog_4_method_42_code 24 = .ok (.getfield 7, 3) := by decide +kernel
theorem d_Y_whole_27 : decode prog_4_method_42_code 27 = .ok (.iload_n 1, 1) := by decide +kernel
theorem d_Y_whole_28 : decode prog_4_method_42_code 28 = .ok (.laload, 1) := by decide +kernel
theorem d_Y_whole_29 : decode prog_4_method_42_code 29 = .ok (.invokestatic 29, 3) := by decide +kernel
theorem d_Y_whole_32 : decode prog_4_method_42_code 32 = .ok (.aload_n 0, 1) := by decide +kernel
theorem d_Y_whole_33 : decode prog_4_method_42_code 33 = .ok (.getfield 13, 3) := by decide +kernel
theorem d_Y_whole_36 : decode prog_4_method_42_code 36 = .ok (.iload_n 1, 1) := by decide +kernel
theorem d_Y_whole_37 : decode prog_4_method_42_code 37 = .ok (.iaload, 1) := by decide +kernel
theorem d_Y_whole_38 : decode prog_4_method_42_code 38 = .ok (.iadd, 1) := by decide +kernel
theorem d_Y_whole_39 : decode prog_4_method_42_code 39 = .ok (.istore 4, 2) := by decide +kernel
theorem d_Y_whole_41 : decode prog_4_method_42_code 41 = .ok (.aload_n 0, 1) := by decide +kernel
theorem d_Y_whole_42 : decode prog_4_method_42_code 42 = .ok (.getfield 7, 3) := by decide +kernel
theorem d_Y_whole_45 : decode prog_4_method_42_code 45 = .ok (.iload_n 1, 1) := by decide +kernel
theorem d_Y_whole_46 : decode prog_4_method_42_code 46 = .ok (.laload, 1) := by decide +kernel
theorem d_Y_whole_47 : decode prog_4_method_42_code 47 = .ok (.lconst 0, 1) := by decide +kernel
theorem d_Y_whole_48 : decode prog_4_method_42_code 48 = .ok (.lcmp, 1) := by decide +kernel
theorem d_Y_whole_49 : decode prog_4_method_42_code 49 = .ok (.ifCond .eq 8, 3) := by decide +kernel
theorem d_Y_whole_52 : decode prog_4_method_42_code 52 = .ok (.iload 4, 2) := by decide +kernel
theorem d_Y_whole_54 : decode prog_4_method_42_code 54 = .ok (.ifCond .gt 5, 3) := by decide +kernel
theorem d_Y_whole_57 : decode prog_4_method_42_code 57 = .ok (.lconst 0, 1) := by decide +kernel
theorem d_Y_whole_58 : decode prog_4_method_42_code 58 = .ok (.lreturn, 1) := by decide +kernel
theorem d_Y_whole_59 : decode prog_4_method_42_code 59 = .ok (.iload 4, 2) := by decide +kernel
theorem d_Y_whole_61 : decode prog_4_method_42_code 61 = .ok (.iload_n 3, 1) := by decide +kernel
theorem d_Y_whole_62 : decode prog_4_method_42_code 62 = .ok (.if_icmp .le 38, 3) := by decide +kernel
theorem d_Y_whole_65 : decode prog_4_method_42_code 65 = .ok (.iload_n 2, 1) := by decide +kernel
theorem d_Y_whole_66 : decode prog_4_method_42_code 66 = .ok (.ifCond .eq 9, 3) := by decide +kernel
theorem d_Y_whole_69 : decode prog_4_method_42_code 69 = .ok (.ldc2_w 162, 3) := by decide +kernel
theorem d_Y_whole_72 : decode prog_4_method_42_code 72 = .ok (.goto 6, 3) := by decide +kernel
theorem d_Y_whole_75 : decode prog_4_method_42_code 75 = .ok (.ldc2_w 164, 3) := by decide +kernel
theorem d_Y_whole_78 : decode prog_4_method_42_code 78 = .ok (.lstore 5, 2) := by decide +kernel
theorem d_Y_whole_80 : decode prog_4_method_42_code 80 = .ok (.aload_n 0, 1) := by decide +kernel
theorem d_Y_whole_81 : decode prog_4_method_42_code 81 = .ok (.getfield 17, 3) := by decide +kernel
theorem d_Y_whole_84 : decode prog_4_method_42_code 84 = .ok (.iload_n 1, 1) := by decide +kernel
theorem d_Y_whole_85 : decode prog_4_method_42_code 85 = .ok (.baload, 1) := by decide +kernel
theorem d_Y_whole_86 : decode prog_4_method_42_code 86 = .ok (.ifCond .eq 11, 3) := by decide +kernel
theorem d_Y_whole_89 : decode prog_4_method_42_code 89 = .ok (.lload 5, 2) := by decide +kernel
theorem d_Y_whole_91 : decode prog_4_method_42_code 91 = .ok (.lneg, 1) := by decide +kernel
theorem d_Y_whole_92 : decode prog_4_method_42_code 92 = .ok (.lconst 1, 1) := by decide +kernel
theorem d_Y_whole_93 : decode prog_4_method_42_code 93 = .ok (.lsub, 1) := by decide +kernel
theorem d_Y_whole_94 : decode prog_4_method_42_code 94 = .ok (.goto 5, 3) := by decide +kernel
theorem d_Y_whole_97 : decode prog_4_method_42_code 97 = .ok (.lload 5, 2) := by decide +kernel
theorem d_Y_whole_99 : decode prog_4_method_42_code 99 = .ok (.lreturn, 1) := by decide +kernel
theorem d_Y_whole_100 : decode prog_4_method_42_code 100 = .ok (.aload_n 0, 1) := by decide +kernel
theorem d_Y_whole_101 : decode prog_4_method_42_code 101 = .ok (.getfield 13, 3) := by decide +kernel
theorem d_Y_whole_104 : decode prog_4_method_42_code 104 = .ok (.iload_n 1, 1) := by decide +kernel
theorem d_Y_whole_105 : decode prog_4_method_42_code 105 = .ok (.iaload, 1) := by decide +kernel
theorem d_Y_whole_106 : decode prog_4_method_42_code 106 = .ok (.ifCond .lt 19, 3) := by decide +kernel
theorem d_Y_whole_109 : decode prog_4_method_42_code 109 = .ok (.aload_n 0, 1) := by decide +kernel
theorem d_Y_whole_110 : decode prog_4_method_42_code 110 = .ok (.getfield 7, 3) := by decide +kernel
theorem d_Y_whole_113 : decode prog_4_method_42_code 113 = .ok (.iload_n 1, 1) := by decide +kernel
theorem d_Y_whole_114 : decode prog_4_method_42_code 114 = .ok (.laload, 1) := by decide +kernel
theorem d_Y_whole_115 : decode prog_4_method_42_code 115 = .ok (.aload_n 0, 1) := by decide +kernel
theorem d_Y_whole_116 : decode prog_4_method_42_code 116 = .ok (.getfield 13, 3) := by decide +kernel
theorem d_Y_whole_119 : decode prog_4_method_42_code 119 = .ok (.iload_n 1, 1) := by decide +kernel
theorem d_Y_whole_120 : decode prog_4_method_42_code 120 = .ok (.iaload, 1) := by decide +kernel
theorem d_Y_whole_121 : decode prog_4_method_42_code 121 = .ok (.lshl, 1) := by decide +kernel
theorem d_Y_whole_122 : decode prog_4_method_42_code 122 = .ok (.goto 17, 3) := by decide +kernel
theorem d_Y_whole_125 : decode prog_4_method_42_code 125 = .ok (.aload_n 0, 1) := by decide +kernel
theorem d_Y_whole_126 : decode prog_4_method_42_code 126 = .ok (.getfield 7, 3) := by decide +kernel
theorem d_Y_whole_129 : decode prog_4_method_42_code 129 = .ok (.iload_n 1, 1) := by decide +kernel
theorem d_Y_whole_130 : decode prog_4_method_42_code 130 = .ok (.laload, 1) := by decide +kernel
theorem d_Y_whole_131 : decode prog_4_method_42_code 131 = .ok (.aload_n 0, 1) := by decide +kernel
theorem d_Y_whole_132 : decode prog_4_method_42_code 132 = .ok (.getfield 13, 3) := by decide +kernel
theorem d_Y_whole_135 : decode prog_4_method_42_code 135 = .ok (.iload_n 1, 1) := by decide +kernel
theorem d_Y_whole_136 : decode prog_4_method_42_code 136 = .ok (.iaload, 1) := by decide +kernel
theorem d_Y_whole_137 : decode prog_4_method_42_code 137 = .ok (.ineg, 1) := by decide +kernel
theorem d_Y_whole_138 : decode prog_4_method_42_code 138 = .ok (.lshr, 1) := by decide +kernel
theorem d_Y_whole_139 : decode prog_4_method_42_code 139 = .ok (.lstore 5, 2) := by decide +kernel
theorem d_Y_whole_141 : decode prog_4_method_42_code 141 = .ok (.aload_n 0, 1) := by decide +kernel
theorem d_Y_whole_142 : decode prog_4_method_42_code 142 = .ok (.getfield 17, 3) := by decide +kernel
theorem d_Y_whole_145 : decode prog_4_method_42_code 145 = .ok (.iload_n 1, 1) := by decide +kernel
theorem d_Y_whole_146 : decode prog_4_method_42_code 146 = .ok (.baload, 1) := by decide +kernel
theorem d_Y_whole_147 : decode prog_4_method_42_code 147 = .ok (.ifCond .eq 9, 3) := by decide +kernel
theorem d_Y_whole_150 : decode prog_4_method_42_code 150 = .ok (.lload 5, 2) := by decide +kernel
theorem d_Y_whole_152 : decode prog_4_method_42_code 152 = .ok (.lneg, 1) := by decide +kernel
theorem d_Y_whole_153 : decode prog_4_method_42_code 153 = .ok (.goto 5, 3) := by decide +kernel
theorem d_Y_whole_156 : decode prog_4_method_42_code 156 = .ok (.lload 5, 2) := by decide +kernel
theorem d_Y_whole_158 : decode prog_4_method_42_code 158 = .ok (.lreturn, 1) := by decide +kernel
theorem d_Y_count_0 : decode prog_4_method_43_code 0 = .ok (.iconst 0, 1) := by decide +kernel
theorem d_Y_count_1 : decode prog_4_method_43_code 1 = .ok (.istore_n 2, 1) := by decide +kernel
theorem d_Y_count_2 : decode prog_4_method_43_code 2 = .ok (.iload_n 1, 1) := by decide +kernel
theorem d_Y_count_3 : decode prog_4_method_43_code 3 = .ok (.tableswitch 71 0 3 #[29, 34, 61, 66], 29) := by decide +kernel
theorem d_Y_count_32 : decode prog_4_method_43_code 32 = .ok (.aload_n 0, 1) := by decide +kernel
theorem d_Y_count_33 : decode prog_4_method_43_code 33 = .ok (.getfield 51, 3) := by decide +kernel
theorem d_Y_count_36 : decode prog_4_method_43_code 36 = .ok (.ireturn, 1) := by decide +kernel
theorem d_Y_count_37 : decode prog_4_method_43_code 37 = .ok (.iconst 0, 1) := by decide +kernel
theorem d_Y_count_38 : decode prog_4_method_43_code 38 = .ok (.istore_n 3, 1) := by decide +kernel
theorem d_Y_count_39 : decode prog_4_method_43_code 39 = .ok (.iload_n 3, 1) := by decide +kernel
theorem d_Y_count_40 : decode prog_4_method_43_code 40 = .ok (.bipush 8, 2) := by decide +kernel
theorem d_Y_count_42 : decode prog_4_method_43_code 42 = .ok (.if_icmp .ge 20, 3) := by decide +kernel
theorem d_Y_count_45 : decode prog_4_method_43_code 45 = .ok (.aload_n 0, 1) := by decide +kernel
theorem d_Y_count_46 : decode prog_4_method_43_code 46 = .ok (.iload_n 3, 1) := by decide +kernel
theorem d_Y_count_47 : decode prog_4_method_43_code 47 = .ok (.invokevirtual 109, 3) := by decide +kernel
theorem d_Y_count_50 : decode prog_4_method_43_code 50 = .ok (.ifCond .eq 6, 3) := by decide +kernel
theorem d_Y_count_53 : decode prog_4_method_43_code 53 = .ok (.iinc 2 1, 3) := by decide +kernel
theorem d_Y_count_56 : decode prog_4_method_43_code 56 = .ok (.iinc 3 1, 3) := by decide +kernel
theorem d_Y_count_59 : decode prog_4_method_43_code 59 = .ok (.goto (-20), 3) := by decide +kernel
theorem d_Y_count_62 : decode prog_4_method_43_code 62 = .ok (.iload_n 2, 1) := by decide +kernel
theorem d_Y_count_63 : decode prog_4_method_43_code 63 = .ok (.ireturn, 1) := by decide +kernel
theorem d_Y_count_64 : decode prog_4_method_43_code 64 = .ok (.aload_n 0, 1) := by decide +kernel
theorem d_Y_count_65 : decode prog_4_method_43_code 65 = .ok (.getfield 54, 3) := by decide +kernel
theorem d_Y_count_68 : decode prog_4_method_43_code 68 = .ok (.ireturn, 1) := by decide +kernel
theorem d_Y_count_69 : decode prog_4_method_43_code 69 = .ok (.aload_n 0, 1) := by decide +kernel
theorem d_Y_count_70 : decode prog_4_method_43_code 70 = .ok (.getfield 33, 3) := by decide +kernel
theorem d_Y_count_73 : decode prog_4_method_43_code 73 = .ok (.ireturn, 1) := by decide +kernel
theorem d_Y_count_74 : decode prog_4_method_43_code 74 = .ok (.bipush (-100), 2) := by decide +kernel
theorem d_Y_count_76 : decode prog_4_method_43_code 76 = .ok (.ireturn, 1) := by decide +kernel
