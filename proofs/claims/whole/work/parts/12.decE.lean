theorem d_E_hold_0 : decode prog_2_method_2_code 0 = .ok (.aload_n 0, 1) := by decide +kernel
theorem d_E_hold_1 : decode prog_2_method_2_code 1 = .ok (.lload_n 1, 1) := by decide +kernel
theorem d_E_hold_2 : decode prog_2_method_2_code 2 = .ok (.invokestatic 9, 3) := by decide +kernel
theorem d_E_hold_5 : decode prog_2_method_2_code 5 = .ok (.putfield 15, 3) := by decide +kernel
theorem d_E_hold_8 : decode prog_2_method_2_code 8 = .ok (.aload_n 0, 1) := by decide +kernel
theorem d_E_hold_9 : decode prog_2_method_2_code 9 = .ok (.lconst 0, 1) := by decide +kernel
theorem d_E_hold_10 : decode prog_2_method_2_code 10 = .ok (.putfield 19, 3) := by decide +kernel
theorem d_E_hold_13 : decode prog_2_method_2_code 13 = .ok (.aload_n 0, 1) := by decide +kernel
theorem d_E_hold_14 : decode prog_2_method_2_code 14 = .ok (.lload_n 1, 1) := by decide +kernel
theorem d_E_hold_15 : decode prog_2_method_2_code 15 = .ok (.invokestatic 23, 3) := by decide +kernel
theorem d_E_hold_18 : decode prog_2_method_2_code 18 = .ok (.putfield 29, 3) := by decide +kernel
theorem d_E_hold_21 : decode prog_2_method_2_code 21 = .ok (.aload_n 0, 1) := by decide +kernel
theorem d_E_hold_22 : decode prog_2_method_2_code 22 = .ok (.iload_n 3, 1) := by decide +kernel
theorem d_E_hold_23 : decode prog_2_method_2_code 23 = .ok (.putfield 32, 3) := by decide +kernel
theorem d_E_hold_26 : decode prog_2_method_2_code 26 = .ok (.aload_n 0, 1) := by decide +kernel
theorem d_E_hold_27 : decode prog_2_method_2_code 27 = .ok (.iconst 0, 1) := by decide +kernel
theorem d_E_hold_28 : decode prog_2_method_2_code 28 = .ok (.putfield 35, 3) := by decide +kernel
theorem d_E_hold_31 : decode prog_2_method_2_code 31 = .ok (.return_, 1) := by decide +kernel
theorem d_E_holdProduct_0 : decode prog_2_method_3_code 0 = .ok (.lload_n 1, 1) := by decide +kernel
theorem d_E_holdProduct_1 : decode prog_2_method_3_code 1 = .ok (.invokestatic 23, 3) := by decide +kernel
theorem d_E_holdProduct_4 : decode prog_2_method_3_code 4 = .ok (.lstore 6, 2) := by decide +kernel
theorem d_E_holdProduct_6 : decode prog_2_method_3_code 6 = .ok (.lload_n 3, 1) := by decide +kernel
theorem d_E_holdProduct_7 : decode prog_2_method_3_code 7 = .ok (.invokestatic 23, 3) := by decide +kernel
theorem d_E_holdProduct_10 : decode prog_2_method_3_code 10 = .ok (.lstore 8, 2) := by decide +kernel
theorem d_E_holdProduct_12 : decode prog_2_method_3_code 12 = .ok (.lload 6, 2) := by decide +kernel
theorem d_E_holdProduct_14 : decode prog_2_method_3_code 14 = .ok (.bipush 32, 2) := by decide +kernel
theorem d_E_holdProduct_16 : decode prog_2_method_3_code 16 = .ok (.lushr, 1) := by decide +kernel
theorem d_E_holdProduct_17 : decode prog_2_method_3_code 17 = .ok (.lstore 10, 2) := by decide +kernel
theorem d_E_holdProduct_19 : decode prog_2_method_3_code 19 = .ok (.lload 6, 2) := by decide +kernel
theorem d_E_holdProduct_21 : decode prog_2_method_3_code 21 = .ok (.ldc2_w 39, 3) := by decide +kernel
theorem d_E_holdProduct_24 : decode prog_2_method_3_code 24 = .ok (.land, 1) := by decide +kernel
theorem d_E_holdProduct_25 : decode prog_2_method_3_code 25 = .ok (.lstore 12, 2) := by decide +kernel
theorem d_E_holdProduct_27 : decode prog_2_method_3_code 27 = .ok (.lload 8, 2) := by decide +kernel
theorem d_E_holdProduct_29 : decode prog_2_method_3_code 29 = .ok (.bipush 32, 2) := by decide +kernel
theorem d_E_holdProduct_31 : decode prog_2_method_3_code 31 = .ok (.lushr, 1) := by decide +kernel
theorem d_E_holdProduct_32 : decode prog_2_method_3_code 32 = .ok (.lstore 14, 2) := by decide +kernel
theorem d_E_holdProduct_34 : decode prog_2_method_3_code 34 = .ok (.lload 8, 2) := by decide +kernel
theorem d_E_holdProduct_36 : decode prog_2_method_3_code 36 = .ok (.ldc2_w 39, 3) := by decide +kernel
theorem d_E_holdProduct_39 : decode prog_2_method_3_code 39 = .ok (.land, 1) := by decide +kernel
theorem d_E_holdProduct_40 : decode prog_2_method_3_code 40 = .ok (.lstore 16, 2) := by decide +kernel
theorem d_E_holdProduct_42 : decode prog_2_method_3_code 42 = .ok (.lload 10, 2) := by decide +kernel
theorem d_E_holdProduct_44 : decode prog_2_method_3_code 44 = .ok (.lload 16, 2) := by decide +kernel
theorem d_E_holdProduct_46 : decode prog_2_method_3_code 46 = .ok (.lmul, 1) := by decide +kernel
theorem d_E_holdProduct_47 : decode prog_2_method_3_code 47 = .ok (.lload 12, 2) := by decide +kernel
theorem d_E_holdProduct_49 : decode prog_2_method_3_code 49 = .ok (.lload 14, 2) := by decide +kernel
theorem d_E_holdProduct_51 : decode prog_2_method_3_code 51 = .ok (.lmul, 1) := by decide +kernel
theorem d_E_holdProduct_52 : decode prog_2_method_3_code 52 = .ok (.ladd, 1) := by decide +kernel
theorem d_E_holdProduct_53 : decode prog_2_method_3_code 53 = .ok (.lload 12, 2) := by decide +kernel
theorem d_E_holdProduct_55 : decode prog_2_method_3_code 55 = .ok (.lload 16, 2) := by decide +kernel
theorem d_E_holdProduct_57 : decode prog_2_method_3_code 57 = .ok (.lmul, 1) := by decide +kernel
theorem d_E_holdProduct_58 : decode prog_2_method_3_code 58 = .ok (.bipush 32, 2) := by decide +kernel
theorem d_E_holdProduct_60 : decode prog_2_method_3_code 60 = .ok (.lushr, 1) := by decide +kernel
theorem d_E_holdProduct_61 : decode prog_2_method_3_code 61 = .ok (.ladd, 1) := by decide +kernel
theorem d_E_holdProduct_62 : decode prog_2_method_3_code 62 = .ok (.lstore 18, 2) := by decide +kernel
theorem d_E_holdProduct_64 : decode prog_2_method_3_code 64 = .ok (.aload_n 0, 1) := by decide +kernel
theorem d_E_holdProduct_65 : decode prog_2_method_3_code 65 = .ok (.lload_n 1, 1) := by decide +kernel
theorem d_E_holdProduct_66 : decode prog_2_method_3_code 66 = .ok (.invokestatic 9, 3) := by decide +kernel
theorem d_E_holdProduct_69 : decode prog_2_method_3_code 69 = .ok (.lload_n 3, 1) := by decide +kernel
theorem d_E_holdProduct_70 : decode prog_2_method_3_code 70 = .ok (.invokestatic 9, 3) := by decide +kernel
theorem d_E_holdProduct_73 : decode prog_2_method_3_code 73 = .ok (.imul, 1) := by decide +kernel
theorem d_E_holdProduct_74 : decode prog_2_method_3_code 74 = .ok (.putfield 15, 3) := by decide +kernel
theorem d_E_holdProduct_77 : decode prog_2_method_3_code 77 = .ok (.aload_n 0, 1) := by decide +kernel
theorem d_E_holdProduct_78 : decode prog_2_method_3_code 78 = .ok (.lload 10, 2) := by decide +kernel
theorem d_E_holdProduct_80 : decode prog_2_method_3_code 80 = .ok (.lload 14, 2) := by decide +kernel
theorem d_E_holdProduct_82 : decode prog_2_method_3_code 82 = .ok (.lmul, 1) := by decide +kernel
theorem d_E_holdProduct_83 : decode prog_2_method_3_code 83 = .ok (.lload 18, 2) := by decide +kernel
theorem d_E_holdProduct_85 : decode prog_2_method_3_code 85 = .ok (.bipush 32, 2) := by decide +kernel
theorem d_E_holdProduct_87 : decode prog_2_method_3_code 87 = .ok (.lushr, 1) := by decide +kernel
theorem d_E_holdProduct_88 : decode prog_2_method_3_code 88 = .ok (.ladd, 1) := by decide +kernel
theorem d_E_holdProduct_89 : decode prog_2_method_3_code 89 = .ok (.putfield 19, 3) := by decide +kernel
theorem d_E_holdProduct_92 : decode prog_2_method_3_code 92 = .ok (.aload_n 0, 1) := by decide +kernel
theorem d_E_holdProduct_93 : decode prog_2_method_3_code 93 = .ok (.lload 6, 2) := by decide +kernel
theorem d_E_holdProduct_95 : decode prog_2_method_3_code 95 = .ok (.lload 8, 2) := by decide +kernel
theorem d_E_holdProduct_97 : decode prog_2_method_3_code 97 = .ok (.lmul, 1) := by decide +kernel
theorem d_E_holdProduct_98 : decode prog_2_method_3_code 98 = .ok (.putfield 29, 3) := by decide +kernel
theorem d_E_holdProduct_101 : decode prog_2_method_3_code 101 = .ok (.aload_n 0, 1) := by decide +kernel
theorem d_E_holdProduct_102 : decode prog_2_method_3_code 102 = .ok (.iload 5, 2) := by decide +kernel
theorem d_E_holdProduct_104 : decode prog_2_method_3_code 104 = .ok (.putfield 32, 3) := by decide +kernel
theorem d_E_holdProduct_107 : decode prog_2_method_3_code 107 = .ok (.aload_n 0, 1) := by decide +kernel
theorem d_E_holdProduct_108 : decode prog_2_method_3_code 108 = .ok (.iconst 0, 1) := by decide +kernel
theorem d_E_holdProduct_109 : decode prog_2_method_3_code 109 = .ok (.putfield 35, 3) := by decide +kernel
theorem d_E_holdProduct_112 : decode prog_2_method_3_code 112 = .ok (.return_, 1) := by decide +kernel
theorem d_E_holdQuotient_0 : decode prog_2_method_4_code 0 = .ok (.lload_n 3, 1) := by decide +kernel
theorem d_E_holdQuotient_1 : decode prog_2_method_4_code 1 = .ok (.invokestatic 23, 3) := by decide +kernel
theorem d_E_holdQuotient_4 : decode prog_2_method_4_code 4 = .ok (.lstore 6, 2) := by decide +kernel
theorem d_E_holdQuotient_6 : decode prog_2_method_4_code 6 = .ok (.lload 6, 2) := by decide +kernel
theorem d_E_holdQuotient_8 : decode prog_2_method_4_code 8 = .ok (.lconst 0, 1) := by decide +kernel
theorem d_E_holdQuotient_9 : decode prog_2_method_4_code 9 = .ok (.lcmp, 1) := by decide +kernel
theorem d_E_holdQuotient_10 : decode prog_2_method_4_code 10 = .ok (.ifCond .ne 4, 3) := by decide +kernel
theorem d_E_holdQuotient_13 : decode prog_2_method_4_code 13 = .ok (.return_, 1) := by decide +kernel
theorem d_E_holdQuotient_14 : decode prog_2_method_4_code 14 = .ok (.lload_n 1, 1) := by decide +kernel
theorem d_E_holdQuotient_15 : decode prog_2_method_4_code 15 = .ok (.invokestatic 23, 3) := by decide +kernel
theorem d_E_holdQuotient_18 : decode prog_2_method_4_code 18 = .ok (.lload 6, 2) := by decide +kernel
theorem d_E_holdQuotient_20 : decode prog_2_method_4_code 20 = .ok (.ldiv, 1) := by decide +kernel
theorem d_E_holdQuotient_21 : decode prog_2_method_4_code 21 = .ok (.lstore 8, 2) := by decide +kernel
theorem d_E_holdQuotient_23 : decode prog_2_method_4_code 23 = .ok (.lload_n 1, 1) := by decide +kernel
theorem d_E_holdQuotient_24 : decode prog_2_method_4_code 24 = .ok (.invokestatic 23, 3) := by decide +kernel
theorem d_E_holdQuotient_27 : decode prog_2_method_4_code 27 = .ok (.lload 6, 2) := by decide +kernel
theorem d_E_holdQuotient_29 : decode prog_2_method_4_code 29 = .ok (.lrem, 1) := by decide +kernel
theorem d_E_holdQuotient_30 : decode prog_2_method_4_code 30 = .ok (.lstore 10, 2) := by decide +kernel
theorem d_E_holdQuotient_32 : decode prog_2_method_4_code 32 = .ok (.iconst 0, 1) := by decide +kernel
theorem d_E_holdQuotient_33 : decode prog_2_method_4_code 33 = .ok (.istore 12, 2) := by decide +kernel
theorem d_E_holdQuotient_35 : decode prog_2_method_4_code 35 = .ok (.iload 12, 2) := by decide +kernel
theorem d_E_holdQuotient_37 : decode prog_2_method_4_code 37 = .ok (.bipush 6, 2) := by decide +kernel
theorem d_E_holdQuotient_39 : decode prog_2_method_4_code 39 = .ok (.if_icmp .ge 36, 3) := by decide +kernel
theorem d_E_holdQuotient_42 : decode prog_2_method_4_code 42 = .ok (.lload 10, 2) := by decide +kernel
theorem d_E_holdQuotient_44 : decode prog_2_method_4_code 44 = .ok (.bipush 10, 2) := by decide +kernel
theorem d_E_holdQuotient_46 : decode prog_2_method_4_code 46 = .ok (.lshl, 1) := by decide +kernel
theorem d_E_holdQuotient_47 : decode prog_2_method_4_code 47 = .ok (.lstore 10, 2) := by decide +kernel
theorem d_E_holdQuotient_49 : decode prog_2_method_4_code 49 = .ok (.lload 8, 2) := by decide +kernel
theorem d_E_holdQuotient_51 : decode prog_2_method_4_code 51 = .ok (.bipush 10, 2) := by decide +kernel
theorem d_E_holdQuotient_53 : decode prog_2_method_4_code 53 = .ok (.lshl, 1) := by decide +kernel
theorem d_E_holdQuotient_54 : decode prog_2_method_4_code 54 = .ok (.lload 10, 2) := by decide +kernel
theorem d_E_holdQuotient_56 : decode prog_2_method_4_code 56 = .ok (.lload 6, 2) := by decide +kernel
theorem d_E_holdQuotient_58 : decode prog_2_method_4_code 58 = .ok (.ldiv, 1) := by decide +kernel
theorem d_E_holdQuotient_59 : decode prog_2_method_4_code 59 = .ok (.lor, 1) := by decide +kernel
theorem d_E_holdQuotient_60 : decode prog_2_method_4_code 60 = .ok (.lstore 8, 2) := by decide +kernel
theorem d_E_holdQuotient_62 : decode prog_2_method_4_code 62 = .ok (.lload 10, 2) := by decide +kernel
theorem d_E_holdQuotient_64 : decode prog_2_method_4_code 64 = .ok (.lload 6, 2) := by decide +kernel
theorem d_E_holdQuotient_66 : decode prog_2_method_4_code 66 = .ok (.lrem, 1) := by decide +kernel
theorem d_E_holdQuotient_67 : decode prog_2_method_4_code 67 = .ok (.lstore 10, 2) := by decide +kernel
theorem d_E_holdQuotient_69 : decode prog_2_method_4_code 69 = .ok (.iinc 12 1, 3) := by decide +kernel
theorem d_E_holdQuotient_72 : decode prog_2_method_4_code 72 = .ok (.goto (-37), 3) := by decide +kernel
theorem d_E_holdQuotient_75 : decode prog_2_method_4_code 75 = .ok (.aload_n 0, 1) := by decide +kernel
theorem d_E_holdQuotient_76 : decode prog_2_method_4_code 76 = .ok (.lload_n 1, 1) := by decide +kernel
theorem d_E_holdQuotient_77 : decode prog_2_method_4_code 77 = .ok (.invokestatic 9, 3) := by decide +kernel
theorem d_E_holdQuotient_80 : decode prog_2_method_4_code 80 = .ok (.lload_n 3, 1) := by decide +kernel
theorem d_E_holdQuotient_81 : decode prog_2_method_4_code 81 = .ok (.invokestatic 9, 3) := by decide +kernel
theorem d_E_holdQuotient_84 : decode prog_2_method_4_code 84 = .ok (.imul, 1) := by decide +kernel
theorem d_E_holdQuotient_85 : decode prog_2_method_4_code 85 = .ok (.putfield 15, 3) := by decide +kernel
theorem d_E_holdQuotient_88 : decode prog_2_method_4_code 88 = .ok (.aload_n 0, 1) := by decide +kernel
theorem d_E_holdQuotient_89 : decode prog_2_method_4_code 89 = .ok (.lconst 0, 1) := by decide +kernel
theorem d_E_holdQuotient_90 : decode prog_2_method_4_code 90 = .ok (.putfield 19, 3) := by decide +kernel
theorem d_E_holdQuotient_93 : decode prog_2_method_4_code 93 = .ok (.aload_n 0, 1) := by decide +kernel
theorem d_E_holdQuotient_94 : decode prog_2_method_4_code 94 = .ok (.lload 8, 2) := by decide +kernel
theorem d_E_holdQuotient_96 : decode prog_2_method_4_code 96 = .ok (.putfield 29, 3) := by decide +kernel
theorem d_E_holdQuotient_99 : decode prog_2_method_4_code 99 = .ok (.aload_n 0, 1) := by decide +kernel
theorem d_E_holdQuotient_100 : decode prog_2_method_4_code 100 = .ok (.iload 5, 2) := by decide +kernel
theorem d_E_holdQuotient_102 : decode prog_2_method_4_code 102 = .ok (.bipush 60, 2) := by decide +kernel
theorem d_E_holdQuotient_104 : decode prog_2_method_4_code 104 = .ok (.isub, 1) := by decide +kernel
theorem d_E_holdQuotient_105 : decode prog_2_method_4_code 105 = .ok (.putfield 32, 3) := by decide +kernel
theorem d_E_holdQuotient_108 : decode prog_2_method_4_code 108 = .ok (.aload_n 0, 1) := by decide +kernel
theorem d_E_holdQuotient_109 : decode prog_2_method_4_code 109 = .ok (.lload 10, 2) := by decide +kernel
theorem d_E_holdQuotient_111 : decode prog_2_method_4_code 111 = .ok (.lconst 0, 1) := by decide +kernel
theorem d_E_holdQuotient_112 : decode prog_2_method_4_code 112 = .ok (.lcmp, 1) := by decide +kernel
theorem d_E_holdQuotient_113 : decode prog_2_method_4_code 113 = .ok (.ifCond .eq 7, 3) := by decide +kernel
theorem d_E_holdQuotient_116 : decode prog_2_method_4_code 116 = .ok (.iconst 1, 1) := by decide +kernel
theorem d_E_holdQuotient_117 : decode prog_2_method_4_code 117 = .ok (.goto 4, 3) := by decide +kernel
theorem d_E_holdQuotient_120 : decode prog_2_method_4_code 120 = .ok (.iconst 0, 1) := by decide +kernel
theorem d_E_holdQuotient_121 : decode prog_2_method_4_code 121 = .ok (.putfield 35, 3) := by decide +kernel
theorem d_E_holdQuotient_124 : decode prog_2_method_4_code 124 = .ok (.return_, 1) := by decide +kernel
theorem d_E_holdRoot_0 : decode prog_2_method_5_code 0 = .ok (.lload_n 1, 1) := by decide +kernel
theorem d_E_holdRoot_1 : decode prog_2_method_5_code 1 = .ok (.iload_n 3, 1) := by decide +kernel
theorem d_E_holdRoot_2 : decode prog_2_method_5_code 2 = .ok (.iconst 1, 1) := by decide +kernel
theorem d_E_holdRoot_3 : decode prog_2_method_5_code 3 = .ok (.iand, 1) := by decide +kernel
theorem d_E_holdRoot_4 : decode prog_2_method_5_code 4 = .ok (.lshl, 1) := by decide +kernel
theorem d_E_holdRoot_5 : decode prog_2_method_5_code 5 = .ok (.lstore 4, 2) := by decide +kernel
theorem d_E_holdRoot_7 : decode prog_2_method_5_code 7 = .ok (.lconst 0, 1) := by decide +kernel
theorem d_E_holdRoot_8 : decode prog_2_method_5_code 8 = .ok (.lstore 6, 2) := by decide +kernel
theorem d_E_holdRoot_10 : decode prog_2_method_5_code 10 = .ok (.lconst 0, 1) := by decide +kernel
theorem d_E_holdRoot_11 : decode prog_2_method_5_code 11 = .ok (.lstore 8, 2) := by decide +kernel
theorem d_E_holdRoot_13 : decode prog_2_method_5_code 13 = .ok (.bipush 26, 2) := by decide +kernel
theorem d_E_holdRoot_15 : decode prog_2_method_5_code 15 = .ok (.istore 10, 2) := by decide +kernel
theorem d_E_holdRoot_17 : decode prog_2_method_5_code 17 = .ok (.iload 10, 2) := by decide +kernel
theorem d_E_holdRoot_19 : decode prog_2_method_5_code 19 = .ok (.bipush (-29), 2) := by decide +kernel
theorem d_E_holdRoot_21 : decode prog_2_method_5_code 21 = .ok (.if_icmp .lt 75, 3) := by decide +kernel
theorem d_E_holdRoot_24 : decode prog_2_method_5_code 24 = .ok (.iload 10, 2) := by decide +kernel
theorem d_E_holdRoot_26 : decode prog_2_method_5_code 26 = .ok (.ifCond .lt 17, 3) := by decide +kernel
theorem d_E_holdRoot_29 : decode prog_2_method_5_code 29 = .ok (.lload 4, 2) := by decide +kernel
theorem d_E_holdRoot_31 : decode prog_2_method_5_code 31 = .ok (.iconst 2, 1) := by decide +kernel
theorem d_E_holdRoot_32 : decode prog_2_method_5_code 32 = .ok (.iload 10, 2) := by decide +kernel
theorem d_E_holdRoot_34 : decode prog_2_method_5_code 34 = .ok (.imul, 1) := by decide +kernel
theorem d_E_holdRoot_35 : decode prog_2_method_5_code 35 = .ok (.lshr, 1) := by decide +kernel
theorem d_E_holdRoot_36 : decode prog_2_method_5_code 36 = .ok (.ldc2_w 41, 3) := by decide +kernel
theorem d_E_holdRoot_39 : decode prog_2_method_5_code 39 = .ok (.land, 1) := by decide +kernel
theorem d_E_holdRoot_40 : decode prog_2_method_5_code 40 = .ok (.goto 4, 3) := by decide +kernel
theorem d_E_holdRoot_43 : decode prog_2_method_5_code 43 = .ok (.lconst 0, 1) := by decide +kernel
theorem d_E_holdRoot_44 : decode prog_2_method_5_code 44 = .ok (.lstore 11, 2) := by decide +kernel
theorem d_E_holdRoot_46 : decode prog_2_method_5_code 46 = .ok (.lload 6, 2) := by decide +kernel
theorem d_E_holdRoot_48 : decode prog_2_method_5_code 48 = .ok (.iconst 2, 1) := by decide +kernel
theorem d_E_holdRoot_49 : decode prog_2_method_5_code 49 = .ok (.lshl, 1) := by decide +kernel
theorem d_E_holdRoot_50 : decode prog_2_method_5_code 50 = .ok (.lconst 1, 1) := by decide +kernel
theorem d_E_holdRoot_51 : decode prog_2_method_5_code 51 = .ok (.lor, 1) := by decide +kernel
theorem d_E_holdRoot_52 : decode prog_2_method_5_code 52 = .ok (.lstore 13, 2) := by decide +kernel
theorem d_E_holdRoot_54 : decode prog_2_method_5_code 54 = .ok (.lload 8, 2) := by decide +kernel
theorem d_E_holdRoot_56 : decode prog_2_method_5_code 56 = .ok (.iconst 2, 1) := by decide +kernel
theorem d_E_holdRoot_57 : decode prog_2_method_5_code 57 = .ok (.lshl, 1) := by decide +kernel
theorem d_E_holdRoot_58 : decode prog_2_method_5_code 58 = .ok (.lload 11, 2) := by decide +kernel
theorem d_E_holdRoot_60 : decode prog_2_method_5_code 60 = .ok (.lor, 1) := by decide +kernel
theorem d_E_holdRoot_61 : decode prog_2_method_5_code 61 = .ok (.lstore 8, 2) := by decide +kernel
theorem d_E_holdRoot_63 : decode prog_2_method_5_code 63 = .ok (.lload 6, 2) := by decide +kernel
theorem d_E_holdRoot_65 : decode prog_2_method_5_code 65 = .ok (.iconst 1, 1) := by decide +kernel
theorem d_E_holdRoot_66 : decode prog_2_method_5_code 66 = .ok (.lshl, 1) := by decide +kernel
theorem d_E_holdRoot_67 : decode prog_2_method_5_code 67 = .ok (.lstore 6, 2) := by decide +kernel
theorem d_E_holdRoot_69 : decode prog_2_method_5_code 69 = .ok (.lload 8, 2) := by decide +kernel
theorem d_E_holdRoot_71 : decode prog_2_method_5_code 71 = .ok (.lload 13, 2) := by decide +kernel
theorem d_E_holdRoot_73 : decode prog_2_method_5_code 73 = .ok (.lcmp, 1) := by decide +kernel
theorem d_E_holdRoot_74 : decode prog_2_method_5_code 74 = .ok (.ifCond .lt 16, 3) := by decide +kernel
theorem d_E_holdRoot_77 : decode prog_2_method_5_code 77 = .ok (.lload 8, 2) := by decide +kernel
theorem d_E_holdRoot_79 : decode prog_2_method_5_code 79 = .ok (.lload 13, 2) := by decide +kernel
theorem d_E_holdRoot_81 : decode prog_2_method_5_code 81 = .ok (.lsub, 1) := by decide +kernel
theorem d_E_holdRoot_82 : decode prog_2_method_5_code 82 = .ok (.lstore 8, 2) := by decide +kernel
theorem d_E_holdRoot_84 : decode prog_2_method_5_code 84 = .ok (.lload 6, 2) := by decide +kernel
theorem d_E_holdRoot_86 : decode prog_2_method_5_code 86 = .ok (.lconst 1, 1) := by decide +kernel
theorem d_E_holdRoot_87 : decode prog_2_method_5_code 87 = .ok (.lor, 1) := by decide +kernel
theorem d_E_holdRoot_88 : decode prog_2_method_5_code 88 = .ok (.lstore 6, 2) := by decide +kernel
theorem d_E_holdRoot_90 : decode prog_2_method_5_code 90 = .ok (.iinc 10 (-1), 3) := by decide +kernel
theorem d_E_holdRoot_93 : decode prog_2_method_5_code 93 = .ok (.goto (-76), 3) := by decide +kernel
theorem d_E_holdRoot_96 : decode prog_2_method_5_code 96 = .ok (.aload_n 0, 1) := by decide +kernel
theorem d_E_holdRoot_97 : decode prog_2_method_5_code 97 = .ok (.lload_n 1, 1) := by decide +kernel
theorem d_E_holdRoot_98 : decode prog_2_method_5_code 98 = .ok (.invokestatic 9, 3) := by decide +kernel
theorem d_E_holdRoot_101 : decode prog_2_method_5_code 101 = .ok (.putfield 15, 3) := by decide +kernel
theorem d_E_holdRoot_104 : decode prog_2_method_5_code 104 = .ok (.aload_n 0, 1) := by decide +kernel
theorem d_E_holdRoot_105 : decode prog_2_method_5_code 105 = .ok (.lconst 0, 1) := by decide +kernel
theorem d_E_holdRoot_106 : decode prog_2_method_5_code 106 = .ok (.putfield 19, 3) := by decide +kernel
theorem d_E_holdRoot_109 : decode prog_2_method_5_code 109 = .ok (.aload_n 0, 1) := by decide +kernel
theorem d_E_holdRoot_110 : decode prog_2_method_5_code 110 = .ok (.lload 6, 2) := by decide +kernel
theorem d_E_holdRoot_112 : decode prog_2_method_5_code 112 = .ok (.putfield 29, 3) := by decide +kernel
theorem d_E_holdRoot_115 : decode prog_2_method_5_code 115 = .ok (.aload_n 0, 1) := by decide +kernel
theorem d_E_holdRoot_116 : decode prog_2_method_5_code 116 = .ok (.iload_n 3, 1) := by decide +kernel
theorem d_E_holdRoot_117 : decode prog_2_method_5_code 117 = .ok (.iload_n 3, 1) := by decide +kernel
theorem d_E_holdRoot_118 : decode prog_2_method_5_code 118 = .ok (.iconst 1, 1) := by decide +kernel
theorem d_E_holdRoot_119 : decode prog_2_method_5_code 119 = .ok (.iand, 1) := by decide +kernel
theorem d_E_holdRoot_120 : decode prog_2_method_5_code 120 = .ok (.isub, 1) := by decide +kernel
theorem d_E_holdRoot_121 : decode prog_2_method_5_code 121 = .ok (.iconst 2, 1) := by decide +kernel
theorem d_E_holdRoot_122 : decode prog_2_method_5_code 122 = .ok (.idiv, 1) := by decide +kernel
theorem d_E_holdRoot_123 : decode prog_2_method_5_code 123 = .ok (.bipush 29, 2) := by decide +kernel
theorem d_E_holdRoot_125 : decode prog_2_method_5_code 125 = .ok (.isub, 1) := by decide +kernel
theorem d_E_holdRoot_126 : decode prog_2_method_5_code 126 = .ok (.putfield 32, 3) := by decide +kernel
theorem d_E_holdRoot_129 : decode prog_2_method_5_code 129 = .ok (.aload_n 0, 1) := by decide +kernel
theorem d_E_holdRoot_130 : decode prog_2_method_5_code 130 = .ok (.lload 8, 2) := by decide +kernel
theorem d_E_holdRoot_132 : decode prog_2_method_5_code 132 = .ok (.lconst 0, 1) := by decide +kernel
theorem d_E_holdRoot_133 : decode prog_2_method_5_code 133 = .ok (.lcmp, 1) := by decide +kernel
theorem d_E_holdRoot_134 : decode prog_2_method_5_code 134 = .ok (.ifCond .eq 7, 3) := by decide +kernel
theorem d_E_holdRoot_137 : decode prog_2_method_5_code 137 = .ok (.iconst 1, 1) := by decide +kernel
theorem d_E_holdRoot_138 : decode prog_2_method_5_code 138 = .ok (.goto 4, 3) := by decide +kernel
theorem d_E_holdRoot_141 : decode prog_2_method_5_code 141 = .ok (.iconst 0, 1) := by decide +kernel
theorem d_E_holdRoot_142 : decode prog_2_method_5_code 142 = .ok (.putfield 35, 3) := by decide +kernel
theorem d_E_holdRoot_145 : decode prog_2_method_5_code 145 = .ok (.return_, 1) := by decide +kernel
theorem d_E_length_0 : decode prog_2_method_10_code 0 = .ok (.aload_n 0, 1) := by decide +kernel
theorem d_E_length_1 : decode prog_2_method_10_code 1 = .ok (.getfield 19, 3) := by decide +kernel
theorem d_E_length_4 : decode prog_2_method_10_code 4 = .ok (.lconst 0, 1) := by decide +kernel
theorem d_E_length_5 : decode prog_2_method_10_code 5 = .ok (.lcmp, 1) := by decide +kernel
theorem d_E_length_6 : decode prog_2_method_10_code 6 = .ok (.ifCond .eq 17, 3) := by decide +kernel
theorem d_E_length_9 : decode prog_2_method_10_code 9 = .ok (.sipush 128, 3) := by decide +kernel
theorem d_E_length_12 : decode prog_2_method_10_code 12 = .ok (.aload_n 0, 1) := by decide +kernel
theorem d_E_length_13 : decode prog_2_method_10_code 13 = .ok (.getfield 19, 3) := by decide +kernel
theorem d_E_length_16 : decode prog_2_method_10_code 16 = .ok (.invokestatic 68, 3) := by decide +kernel
theorem d_E_length_19 : decode prog_2_method_10_code 19 = .ok (.isub, 1) := by decide +kernel
theorem d_E_length_20 : decode prog_2_method_10_code 20 = .ok (.goto 13, 3) := by decide +kernel
theorem d_E_length_23 : decode prog_2_method_10_code 23 = .ok (.bipush 64, 2) := by decide +kernel
theorem d_E_length_25 : decode prog_2_method_10_code 25 = .ok (.aload_n 0, 1) := by decide +kernel
theorem d_E_length_26 : decode prog_2_method_10_code 26 = .ok (.getfield 29, 3) := by decide +kernel
theorem d_E_length_29 : decode prog_2_method_10_code 29 = .ok (.invokestatic 68, 3) := by decide +kernel
theorem d_E_length_32 : decode prog_2_method_10_code 32 = .ok (.isub, 1) := by decide +kernel
theorem d_E_length_33 : decode prog_2_method_10_code 33 = .ok (.ireturn, 1) := by decide +kernel
theorem d_E_shiftUp_0 : decode prog_2_method_12_code 0 = .ok (.iload_n 1, 1) := by decide +kernel
theorem d_E_shiftUp_1 : decode prog_2_method_12_code 1 = .ok (.bipush 64, 2) := by decide +kernel
theorem d_E_shiftUp_3 : decode prog_2_method_12_code 3 = .ok (.if_icmp .lt 24, 3) := by decide +kernel
theorem d_E_shiftUp_6 : decode prog_2_method_12_code 6 = .ok (.aload_n 0, 1) := by decide +kernel
theorem d_E_shiftUp_7 : decode prog_2_method_12_code 7 = .ok (.aload_n 0, 1) := by decide +kernel
theorem d_E_shiftUp_8 : decode prog_2_method_12_code 8 = .ok (.getfield 29, 3) := by decide +kernel
theorem d_E_shiftUp_11 : decode prog_2_method_12_code 11 = .ok (.iload_n 1, 1) := by decide +kernel
theorem d_E_shiftUp_12 : decode prog_2_method_12_code 12 = .ok (.bipush 64, 2) := by decide +kernel
theorem d_E_shiftUp_14 : decode prog_2_method_12_code 14 = .ok (.isub, 1) := by decide +kernel
theorem d_E_shiftUp_15 : decode prog_2_method_12_code 15 = .ok (.lshl, 1) := by decide +kernel
theorem d_E_shiftUp_16 : decode prog_2_method_12_code 16 = .ok (.putfield 19, 3) := by decide +kernel
theorem d_E_shiftUp_19 : decode prog_2_method_12_code 19 = .ok (.aload_n 0, 1) := by decide +kernel
theorem d_E_shiftUp_20 : decode prog_2_method_12_code 20 = .ok (.lconst 0, 1) := by decide +kernel
theorem d_E_shiftUp_21 : decode prog_2_method_12_code 21 = .ok (.putfield 29, 3) := by decide +kernel
theorem d_E_shiftUp_24 : decode prog_2_method_12_code 24 = .ok (.goto 37, 3) := by decide +kernel
theorem d_E_shiftUp_27 : decode prog_2_method_12_code 27 = .ok (.iload_n 1, 1) := by decide +kernel
theorem d_E_shiftUp_28 : decode prog_2_method_12_code 28 = .ok (.ifCond .le 33, 3) := by decide +kernel
theorem d_E_shiftUp_31 : decode prog_2_method_12_code 31 = .ok (.aload_n 0, 1) := by decide +kernel
theorem d_E_shiftUp_32 : decode prog_2_method_12_code 32 = .ok (.aload_n 0, 1) := by decide +kernel
theorem d_E_shiftUp_33 : decode prog_2_method_12_code 33 = .ok (.getfield 19, 3) := by decide +kernel
theorem d_E_shiftUp_36 : decode prog_2_method_12_code 36 = .ok (.iload_n 1, 1) := by decide +kernel
theorem d_E_shiftUp_37 : decode prog_2_method_12_code 37 = .ok (.lshl, 1) := by decide +kernel
theorem d_E_shiftUp_38 : decode prog_2_method_12_code 38 = .ok (.aload_n 0, 1) := by decide +kernel
theorem d_E_shiftUp_39 : decode prog_2_method_12_code 39 = .ok (.getfield 29, 3) := by decide +kernel
theorem d_E_shiftUp_42 : decode prog_2_method_12_code 42 = .ok (.bipush 64, 2) := by decide +kernel
theorem d_E_shiftUp_44 : decode prog_2_method_12_code 44 = .ok (.iload_n 1, 1) := by decide +kernel
theorem d_E_shiftUp_45 : decode prog_2_method_12_code 45 = .ok (.isub, 1) := by decide +kernel
theorem d_E_shiftUp_46 : decode prog_2_method_12_code 46 = .ok (.lushr, 1) := by decide +kernel
theorem d_E_shiftUp_47 : decode prog_2_method_12_code 47 = .ok (.lor, 1) := by decide +kernel
theorem d_E_shiftUp_48 : decode prog_2_method_12_code 48 = .ok (.putfield 19, 3) := by decide +kernel
theorem d_E_shiftUp_51 : decode prog_2_method_12_code 51 = .ok (.aload_n 0, 1) := by decide +kernel
theorem d_E_shiftUp_52 : decode prog_2_method_12_code 52 = .ok (.dup, 1) := by decide +kernel
theorem d_E_shiftUp_53 : decode prog_2_method_12_code 53 = .ok (.getfield 29, 3) := by decide +kernel
theorem d_E_shiftUp_56 : decode prog_2_method_12_code 56 = .ok (.iload_n 1, 1) := by decide +kernel
theorem d_E_shiftUp_57 : decode prog_2_method_12_code 57 = .ok (.lshl, 1) := by decide +kernel
theorem d_E_shiftUp_58 : decode prog_2_method_12_code 58 = .ok (.putfield 29, 3) := by decide +kernel
theorem d_E_shiftUp_61 : decode prog_2_method_12_code 61 = .ok (.aload_n 0, 1) := by decide +kernel
theorem d_E_shiftUp_62 : decode prog_2_method_12_code 62 = .ok (.dup, 1) := by decide +kernel
theorem d_E_shiftUp_63 : decode prog_2_method_12_code 63 = .ok (.getfield 32, 3) := by decide +kernel
theorem d_E_shiftUp_66 : decode prog_2_method_12_code 66 = .ok (.iload_n 1, 1) := by decide +kernel
theorem d_E_shiftUp_67 : decode prog_2_method_12_code 67 = .ok (.isub, 1) := by decide +kernel
theorem d_E_shiftUp_68 : decode prog_2_method_12_code 68 = .ok (.putfield 32, 3) := by decide +kernel
theorem d_E_shiftUp_71 : decode prog_2_method_12_code 71 = .ok (.return_, 1) := by decide +kernel
theorem d_E_shiftDown_0 : decode prog_2_method_13_code 0 = .ok (.iload_n 1, 1) := by decide +kernel
theorem d_E_shiftDown_1 : decode prog_2_method_13_code 1 = .ok (.ifCond .gt 4, 3) := by decide +kernel
theorem d_E_shiftDown_4 : decode prog_2_method_13_code 4 = .ok (.return_, 1) := by decide +kernel
theorem d_E_shiftDown_5 : decode prog_2_method_13_code 5 = .ok (.iload_n 1, 1) := by decide +kernel
theorem d_E_shiftDown_6 : decode prog_2_method_13_code 6 = .ok (.sipush 128, 3) := by decide +kernel
theorem d_E_shiftDown_9 : decode prog_2_method_13_code 9 = .ok (.if_icmp .lt 48, 3) := by decide +kernel
theorem d_E_shiftDown_12 : decode prog_2_method_13_code 12 = .ok (.aload_n 0, 1) := by decide +kernel
theorem d_E_shiftDown_13 : decode prog_2_method_13_code 13 = .ok (.dup, 1) := by decide +kernel
theorem d_E_shiftDown_14 : decode prog_2_method_13_code 14 = .ok (.getfield 35, 3) := by decide +kernel
theorem d_E_shiftDown_17 : decode prog_2_method_13_code 17 = .ok (.aload_n 0, 1) := by decide +kernel
theorem d_E_shiftDown_18 : decode prog_2_method_13_code 18 = .ok (.getfield 19, 3) := by decide +kernel
theorem d_E_shiftDown_21 : decode prog_2_method_13_code 21 = .ok (.lconst 0, 1) := by decide +kernel
theorem d_E_shiftDown_22 : decode prog_2_method_13_code 22 = .ok (.lcmp, 1) := by decide +kernel
theorem d_E_shiftDown_23 : decode prog_2_method_13_code 23 = .ok (.ifCond .ne 12, 3) := by decide +kernel
theorem d_E_shiftDown_26 : decode prog_2_method_13_code 26 = .ok (.aload_n 0, 1) := by decide +kernel
theorem d_E_shiftDown_27 : decode prog_2_method_13_code 27 = .ok (.getfield 29, 3) := by decide +kernel
theorem d_E_shiftDown_30 : decode prog_2_method_13_code 30 = .ok (.lconst 0, 1) := by decide +kernel
theorem d_E_shiftDown_31 : decode prog_2_method_13_code 31 = .ok (.lcmp, 1) := by decide +kernel
theorem d_E_shiftDown_32 : decode prog_2_method_13_code 32 = .ok (.ifCond .eq 7, 3) := by decide +kernel
theorem d_E_shiftDown_35 : decode prog_2_method_13_code 35 = .ok (.iconst 1, 1) := by decide +kernel
theorem d_E_shiftDown_36 : decode prog_2_method_13_code 36 = .ok (.goto 4, 3) := by decide +kernel
theorem d_E_shiftDown_39 : decode prog_2_method_13_code 39 = .ok (.iconst 0, 1) := by decide +kernel
theorem d_E_shiftDown_40 : decode prog_2_method_13_code 40 = .ok (.ior, 1) := by decide +kernel
theorem d_E_shiftDown_41 : decode prog_2_method_13_code 41 = .ok (.putfield 35, 3) := by decide +kernel
theorem d_E_shiftDown_44 : decode prog_2_method_13_code 44 = .ok (.aload_n 0, 1) := by decide +kernel
theorem d_E_shiftDown_45 : decode prog_2_method_13_code 45 = .ok (.lconst 0, 1) := by decide +kernel
theorem d_E_shiftDown_46 : decode prog_2_method_13_code 46 = .ok (.putfield 29, 3) := by decide +kernel
theorem d_E_shiftDown_49 : decode prog_2_method_13_code 49 = .ok (.aload_n 0, 1) := by decide +kernel
theorem d_E_shiftDown_50 : decode prog_2_method_13_code 50 = .ok (.lconst 0, 1) := by decide +kernel
theorem d_E_shiftDown_51 : decode prog_2_method_13_code 51 = .ok (.putfield 19, 3) := by decide +kernel
theorem d_E_shiftDown_54 : decode prog_2_method_13_code 54 = .ok (.goto 171, 3) := by decide +kernel
theorem d_E_shiftDown_57 : decode prog_2_method_13_code 57 = .ok (.iload_n 1, 1) := by decide +kernel
theorem d_E_shiftDown_58 : decode prog_2_method_13_code 58 = .ok (.bipush 64, 2) := by decide +kernel
theorem d_E_shiftDown_60 : decode prog_2_method_13_code 60 = .ok (.if_icmp .le 62, 3) := by decide +kernel
theorem d_E_shiftDown_63 : decode prog_2_method_13_code 63 = .ok (.aload_n 0, 1) := by decide +kernel
theorem d_E_shiftDown_64 : decode prog_2_method_13_code 64 = .ok (.dup, 1) := by decide +kernel
theorem d_E_shiftDown_65 : decode prog_2_method_13_code 65 = .ok (.getfield 35, 3) := by decide +kernel
theorem d_E_shiftDown_68 : decode prog_2_method_13_code 68 = .ok (.aload_n 0, 1) := by decide +kernel
theorem d_E_shiftDown_69 : decode prog_2_method_13_code 69 = .ok (.getfield 29, 3) := by decide +kernel
theorem d_E_shiftDown_72 : decode prog_2_method_13_code 72 = .ok (.lconst 0, 1) := by decide +kernel
theorem d_E_shiftDown_73 : decode prog_2_method_13_code 73 = .ok (.lcmp, 1) := by decide +kernel
theorem d_E_shiftDown_74 : decode prog_2_method_13_code 74 = .ok (.ifCond .ne 18, 3) := by decide +kernel
theorem d_E_shiftDown_77 : decode prog_2_method_13_code 77 = .ok (.aload_n 0, 1) := by decide +kernel
theorem d_E_shiftDown_78 : decode prog_2_method_13_code 78 = .ok (.getfield 19, 3) := by decide +kernel
theorem d_E_shiftDown_81 : decode prog_2_method_13_code 81 = .ok (.sipush 128, 3) := by decide +kernel
theorem d_E_shiftDown_84 : decode prog_2_method_13_code 84 = .ok (.iload_n 1, 1) := by decide +kernel
theorem d_E_shiftDown_85 : decode prog_2_method_13_code 85 = .ok (.isub, 1) := by decide +kernel
theorem d_E_shiftDown_86 : decode prog_2_method_13_code 86 = .ok (.lshl, 1) := by decide +kernel
theorem d_E_shiftDown_87 : decode prog_2_method_13_code 87 = .ok (.lconst 0, 1) := by decide +kernel
theorem d_E_shiftDown_88 : decode prog_2_method_13_code 88 = .ok (.lcmp, 1) := by decide +kernel
theorem d_E_shiftDown_89 : decode prog_2_method_13_code 89 = .ok (.ifCond .eq 7, 3) := by decide +kernel
theorem d_E_shiftDown_92 : decode prog_2_method_13_code 92 = .ok (.iconst 1, 1) := by decide +kernel
theorem d_E_shiftDown_93 : decode prog_2_method_13_code 93 = .ok (.goto 4, 3) := by decide +kernel
theorem d_E_shiftDown_96 : decode prog_2_method_13_code 96 = .ok (.iconst 0, 1) := by decide +kernel
theorem d_E_shiftDown_97 : decode prog_2_method_13_code 97 = .ok (.ior, 1) := by decide +kernel
theorem d_E_shiftDown_98 : decode prog_2_method_13_code 98 = .ok (.putfield 35, 3) := by decide +kernel
theorem d_E_shiftDown_101 : decode prog_2_method_13_code 101 = .ok (.aload_n 0, 1) := by decide +kernel
theorem d_E_shiftDown_102 : decode prog_2_method_13_code 102 = .ok (.aload_n 0, 1) := by decide +kernel
theorem d_E_shiftDown_103 : decode prog_2_method_13_code 103 = .ok (.getfield 19, 3) := by decide +kernel
theorem d_E_shiftDown_106 : decode prog_2_method_13_code 106 = .ok (.iload_n 1, 1) := by decide +kernel
theorem d_E_shiftDown_107 : decode prog_2_method_13_code 107 = .ok (.bipush 64, 2) := by decide +kernel
theorem d_E_shiftDown_109 : decode prog_2_method_13_code 109 = .ok (.isub, 1) := by decide +kernel
theorem d_E_shiftDown_110 : decode prog_2_method_13_code 110 = .ok (.lushr, 1) := by decide +kernel
theorem d_E_shiftDown_111 : decode prog_2_method_13_code 111 = .ok (.putfield 29, 3) := by decide +kernel
theorem d_E_shiftDown_114 : decode prog_2_method_13_code 114 = .ok (.aload_n 0, 1) := by decide +kernel
theorem d_E_shiftDown_115 : decode prog_2_method_13_code 115 = .ok (.lconst 0, 1) := by decide +kernel
theorem d_E_shiftDown_116 : decode prog_2_method_13_code 116 = .ok (.putfield 19, 3) := by decide +kernel
theorem d_E_shiftDown_119 : decode prog_2_method_13_code 119 = .ok (.goto 106, 3) := by decide +kernel
theorem d_E_shiftDown_122 : decode prog_2_method_13_code 122 = .ok (.iload_n 1, 1) := by decide +kernel
theorem d_E_shiftDown_123 : decode prog_2_method_13_code 123 = .ok (.bipush 64, 2) := by decide +kernel
theorem d_E_shiftDown_125 : decode prog_2_method_13_code 125 = .ok (.if_icmp .ne 42, 3) := by decide +kernel
theorem d_E_shiftDown_128 : decode prog_2_method_13_code 128 = .ok (.aload_n 0, 1) := by decide +kernel
theorem d_E_shiftDown_129 : decode prog_2_method_13_code 129 = .ok (.dup, 1) := by decide +kernel
theorem d_E_shiftDown_130 : decode prog_2_method_13_code 130 = .ok (.getfield 35, 3) := by decide +kernel
theorem d_E_shiftDown_133 : decode prog_2_method_13_code 133 = .ok (.aload_n 0, 1) := by decide +kernel
theorem d_E_shiftDown_134 : decode prog_2_method_13_code 134 = .ok (.getfield 29, 3) := by decide +kernel
theorem d_E_shiftDown_137 : decode prog_2_method_13_code 137 = .ok (.lconst 0, 1) := by decide +kernel
theorem d_E_shiftDown_138 : decode prog_2_method_13_code 138 = .ok (.lcmp, 1) := by decide +kernel
theorem d_E_shiftDown_139 : decode prog_2_method_13_code 139 = .ok (.ifCond .eq 7, 3) := by decide +kernel
theorem d_E_shiftDown_142 : decode prog_2_method_13_code 142 = .ok (.iconst 1, 1) := by decide +kernel
theorem d_E_shiftDown_143 : decode prog_2_method_13_code 143 = .ok (.goto 4, 3) := by decide +kernel
theorem d_E_shiftDown_146 : decode prog_2_method_13_code 146 = .ok (.iconst 0, 1) := by decide +kernel
theorem d_E_shiftDown_147 : decode prog_2_method_13_code 147 = .ok (.ior, 1) := by decide +kernel
theorem d_E_shiftDown_148 : decode prog_2_method_13_code 148 = .ok (.putfield 35, 3) := by decide +kernel
theorem d_E_shiftDown_151 : decode prog_2_method_13_code 151 = .ok (.aload_n 0, 1) := by decide +kernel
theorem d_E_shiftDown_152 : decode prog_2_method_13_code 152 = .ok (.aload_n 0, 1) := by decide +kernel
theorem d_E_shiftDown_153 : decode prog_2_method_13_code 153 = .ok (.getfield 19, 3) := by decide +kernel
theorem d_E_shiftDown_156 : decode prog_2_method_13_code 156 = .ok (.putfield 29, 3) := by decide +kernel
theorem d_E_shiftDown_159 : decode prog_2_method_13_code 159 = .ok (.aload_n 0, 1) := by decide +kernel
theorem d_E_shiftDown_160 : decode prog_2_method_13_code 160 = .ok (.lconst 0, 1) := by decide +kernel
theorem d_E_shiftDown_161 : decode prog_2_method_13_code 161 = .ok (.putfield 19, 3) := by decide +kernel
theorem d_E_shiftDown_164 : decode prog_2_method_13_code 164 = .ok (.goto 61, 3) := by decide +kernel
theorem d_E_shiftDown_167 : decode prog_2_method_13_code 167 = .ok (.aload_n 0, 1) := by decide +kernel
theorem d_E_shiftDown_168 : decode prog_2_method_13_code 168 = .ok (.dup, 1) := by decide +kernel
theorem d_E_shiftDown_169 : decode prog_2_method_13_code 169 = .ok (.getfield 35, 3) := by decide +kernel
theorem d_E_shiftDown_172 : decode prog_2_method_13_code 172 = .ok (.aload_n 0, 1) := by decide +kernel
theorem d_E_shiftDown_173 : decode prog_2_method_13_code 173 = .ok (.getfield 29, 3) := by decide +kernel
theorem d_E_shiftDown_176 : decode prog_2_method_13_code 176 = .ok (.bipush 64, 2) := by decide +kernel
theorem d_E_shiftDown_178 : decode prog_2_method_13_code 178 = .ok (.iload_n 1, 1) := by decide +kernel
theorem d_E_shiftDown_179 : decode prog_2_method_13_code 179 = .ok (.isub, 1) := by decide +kernel
theorem d_E_shiftDown_180 : decode prog_2_method_13_code 180 = .ok (.lshl, 1) := by decide +kernel
theorem d_E_shiftDown_181 : decode prog_2_method_13_code 181 = .ok (.lconst 0, 1) := by decide +kernel
theorem d_E_shiftDown_182 : decode prog_2_method_13_code 182 = .ok (.lcmp, 1) := by decide +kernel
theorem d_E_shiftDown_183 : decode prog_2_method_13_code 183 = .ok (.ifCond .eq 7, 3) := by decide +kernel
theorem d_E_shiftDown_186 : decode prog_2_method_13_code 186 = .ok (.iconst 1, 1) := by decide +kernel
theorem d_E_shiftDown_187 : decode prog_2_method_13_code 187 = .ok (.goto 4, 3) := by decide +kernel
theorem d_E_shiftDown_190 : decode prog_2_method_13_code 190 = .ok (.iconst 0, 1) := by decide +kernel
theorem d_E_shiftDown_191 : decode prog_2_method_13_code 191 = .ok (.ior, 1) := by decide +kernel
theorem d_E_shiftDown_192 : decode prog_2_method_13_code 192 = .ok (.putfield 35, 3) := by decide +kernel
theorem d_E_shiftDown_195 : decode prog_2_method_13_code 195 = .ok (.aload_n 0, 1) := by decide +kernel
theorem d_E_shiftDown_196 : decode prog_2_method_13_code 196 = .ok (.aload_n 0, 1) := by decide +kernel
theorem d_E_shiftDown_197 : decode prog_2_method_13_code 197 = .ok (.getfield 29, 3) := by decide +kernel
theorem d_E_shiftDown_200 : decode prog_2_method_13_code 200 = .ok (.iload_n 1, 1) := by decide +kernel
theorem d_E_shiftDown_201 : decode prog_2_method_13_code 201 = .ok (.lushr, 1) := by decide +kernel
theorem d_E_shiftDown_202 : decode prog_2_method_13_code 202 = .ok (.aload_n 0, 1) := by decide +kernel
theorem d_E_shiftDown_203 : decode prog_2_method_13_code 203 = .ok (.getfield 19, 3) := by decide +kernel
theorem d_E_shiftDown_206 : decode prog_2_method_13_code 206 = .ok (.bipush 64, 2) := by decide +kernel
theorem d_E_shiftDown_208 : decode prog_2_method_13_code 208 = .ok (.iload_n 1, 1) := by decide +kernel
theorem d_E_shiftDown_209 : decode prog_2_method_13_code 209 = .ok (.isub, 1) := by decide +kernel
theorem d_E_shiftDown_210 : decode prog_2_method_13_code 210 = .ok (.lshl, 1) := by decide +kernel
theorem d_E_shiftDown_211 : decode prog_2_method_13_code 211 = .ok (.lor, 1) := by decide +kernel
theorem d_E_shiftDown_212 : decode prog_2_method_13_code 212 = .ok (.putfield 29, 3) := by decide +kernel
theorem d_E_shiftDown_215 : decode prog_2_method_13_code 215 = .ok (.aload_n 0, 1) := by decide +kernel
theorem d_E_shiftDown_216 : decode prog_2_method_13_code 216 = .ok (.dup, 1) := by decide +kernel
theorem d_E_shiftDown_217 : decode prog_2_method_13_code 217 = .ok (.getfield 19, 3) := by decide +kernel
theorem d_E_shiftDown_220 : decode prog_2_method_13_code 220 = .ok (.iload_n 1, 1) := by decide +kernel
theorem d_E_shiftDown_221 : decode prog_2_method_13_code 221 = .ok (.lushr, 1) := by decide +kernel
theorem d_E_shiftDown_222 : decode prog_2_method_13_code 222 = .ok (.putfield 19, 3) := by decide +kernel
theorem d_E_shiftDown_225 : decode prog_2_method_13_code 225 = .ok (.aload_n 0, 1) := by decide +kernel
theorem d_E_shiftDown_226 : decode prog_2_method_13_code 226 = .ok (.dup, 1) := by decide +kernel
theorem d_E_shiftDown_227 : decode prog_2_method_13_code 227 = .ok (.getfield 32, 3) := by decide +kernel
theorem d_E_shiftDown_230 : decode prog_2_method_13_code 230 = .ok (.iload_n 1, 1) := by decide +kernel
theorem d_E_shiftDown_231 : decode prog_2_method_13_code 231 = .ok (.iadd, 1) := by decide +kernel
theorem d_E_shiftDown_232 : decode prog_2_method_13_code 232 = .ok (.putfield 32, 3) := by decide +kernel
theorem d_E_shiftDown_235 : decode prog_2_method_13_code 235 = .ok (.return_, 1) := by decide +kernel
theorem d_E_lift_0 : decode prog_2_method_11_code 0 = .ok (.bipush 126, 2) := by decide +kernel
theorem d_E_lift_2 : decode prog_2_method_11_code 2 = .ok (.aload_n 0, 1) := by decide +kernel
theorem d_E_lift_3 : decode prog_2_method_11_code 3 = .ok (.invokevirtual 62, 3) := by decide +kernel
theorem d_E_lift_6 : decode prog_2_method_11_code 6 = .ok (.isub, 1) := by decide +kernel
theorem d_E_lift_7 : decode prog_2_method_11_code 7 = .ok (.istore_n 1, 1) := by decide +kernel
theorem d_E_lift_8 : decode prog_2_method_11_code 8 = .ok (.iload_n 1, 1) := by decide +kernel
theorem d_E_lift_9 : decode prog_2_method_11_code 9 = .ok (.ifCond .ge 12, 3) := by decide +kernel
theorem d_E_lift_12 : decode prog_2_method_11_code 12 = .ok (.aload_n 0, 1) := by decide +kernel
theorem d_E_lift_13 : decode prog_2_method_11_code 13 = .ok (.iload_n 1, 1) := by decide +kernel
theorem d_E_lift_14 : decode prog_2_method_11_code 14 = .ok (.ineg, 1) := by decide +kernel
theorem d_E_lift_15 : decode prog_2_method_11_code 15 = .ok (.invokevirtual 58, 3) := by decide +kernel
theorem d_E_lift_18 : decode prog_2_method_11_code 18 = .ok (.goto 8, 3) := by decide +kernel
theorem d_E_lift_21 : decode prog_2_method_11_code 21 = .ok (.aload_n 0, 1) := by decide +kernel
theorem d_E_lift_22 : decode prog_2_method_11_code 22 = .ok (.iload_n 1, 1) := by decide +kernel
theorem d_E_lift_23 : decode prog_2_method_11_code 23 = .ok (.invokevirtual 71, 3) := by decide +kernel
theorem d_E_lift_26 : decode prog_2_method_11_code 26 = .ok (.return_, 1) := by decide +kernel
theorem d_E_roundTo_0 : decode prog_2_method_9_code 0 = .ok (.aload_n 0, 1) := by decide +kernel
theorem d_E_roundTo_1 : decode prog_2_method_9_code 1 = .ok (.aload_n 0, 1) := by decide +kernel
theorem d_E_roundTo_2 : decode prog_2_method_9_code 2 = .ok (.invokevirtual 62, 3) := by decide +kernel
theorem d_E_roundTo_5 : decode prog_2_method_9_code 5 = .ok (.bipush 62, 2) := by decide +kernel
theorem d_E_roundTo_7 : decode prog_2_method_9_code 7 = .ok (.isub, 1) := by decide +kernel
theorem d_E_roundTo_8 : decode prog_2_method_9_code 8 = .ok (.invokevirtual 58, 3) := by decide +kernel
theorem d_E_roundTo_11 : decode prog_2_method_9_code 11 = .ok (.aload_n 0, 1) := by decide +kernel
theorem d_E_roundTo_12 : decode prog_2_method_9_code 12 = .ok (.invokevirtual 62, 3) := by decide +kernel
theorem d_E_roundTo_15 : decode prog_2_method_9_code 15 = .ok (.iload_n 1, 1) := by decide +kernel
theorem d_E_roundTo_16 : decode prog_2_method_9_code 16 = .ok (.isub, 1) := by decide +kernel
theorem d_E_roundTo_17 : decode prog_2_method_9_code 17 = .ok (.istore_n 2, 1) := by decide +kernel
theorem d_E_roundTo_18 : decode prog_2_method_9_code 18 = .ok (.iload_n 2, 1) := by decide +kernel
theorem d_E_roundTo_19 : decode prog_2_method_9_code 19 = .ok (.ifCond .gt 5, 3) := by decide +kernel
theorem d_E_roundTo_22 : decode prog_2_method_9_code 22 = .ok (.iconst 0, 1) := by decide +kernel
theorem d_E_roundTo_23 : decode prog_2_method_9_code 23 = .ok (.ireturn, 1) := by decide +kernel
theorem d_E_roundTo_24 : decode prog_2_method_9_code 24 = .ok (.lconst 1, 1) := by decide +kernel
theorem d_E_roundTo_25 : decode prog_2_method_9_code 25 = .ok (.iload_n 2, 1) := by decide +kernel
theorem d_E_roundTo_26 : decode prog_2_method_9_code 26 = .ok (.iconst 1, 1) := by decide +kernel
theorem d_E_roundTo_27 : decode prog_2_method_9_code 27 = .ok (.isub, 1) := by decide +kernel
theorem d_E_roundTo_28 : decode prog_2_method_9_code 28 = .ok (.lshl, 1) := by decide +kernel
theorem d_E_roundTo_29 : decode prog_2_method_9_code 29 = .ok (.lstore_n 3, 1) := by decide +kernel
theorem d_E_roundTo_30 : decode prog_2_method_9_code 30 = .ok (.aload_n 0, 1) := by decide +kernel
theorem d_E_roundTo_31 : decode prog_2_method_9_code 31 = .ok (.getfield 29, 3) := by decide +kernel
theorem d_E_roundTo_34 : decode prog_2_method_9_code 34 = .ok (.ldc2_w 66, 3) := by decide +kernel
theorem d_E_roundTo_37 : decode prog_2_method_9_code 37 = .ok (.lload_n 3, 1) := by decide +kernel
theorem d_E_roundTo_38 : decode prog_2_method_9_code 38 = .ok (.lmul, 1) := by decide +kernel
theorem d_E_roundTo_39 : decode prog_2_method_9_code 39 = .ok (.lconst 1, 1) := by decide +kernel
theorem d_E_roundTo_40 : decode prog_2_method_9_code 40 = .ok (.lsub, 1) := by decide +kernel
theorem d_E_roundTo_41 : decode prog_2_method_9_code 41 = .ok (.land, 1) := by decide +kernel
theorem d_E_roundTo_42 : decode prog_2_method_9_code 42 = .ok (.lstore 5, 2) := by decide +kernel
theorem d_E_roundTo_44 : decode prog_2_method_9_code 44 = .ok (.lload 5, 2) := by decide +kernel
theorem d_E_roundTo_46 : decode prog_2_method_9_code 46 = .ok (.lconst 0, 1) := by decide +kernel
theorem d_E_roundTo_47 : decode prog_2_method_9_code 47 = .ok (.lcmp, 1) := by decide +kernel
theorem d_E_roundTo_48 : decode prog_2_method_9_code 48 = .ok (.ifCond .ne 14, 3) := by decide +kernel
theorem d_E_roundTo_51 : decode prog_2_method_9_code 51 = .ok (.aload_n 0, 1) := by decide +kernel
theorem d_E_roundTo_52 : decode prog_2_method_9_code 52 = .ok (.getfield 35, 3) := by decide +kernel
theorem d_E_roundTo_55 : decode prog_2_method_9_code 55 = .ok (.ifCond .ne 7, 3) := by decide +kernel
theorem d_E_roundTo_58 : decode prog_2_method_9_code 58 = .ok (.iconst 1, 1) := by decide +kernel
theorem d_E_roundTo_59 : decode prog_2_method_9_code 59 = .ok (.goto 4, 3) := by decide +kernel
theorem d_E_roundTo_62 : decode prog_2_method_9_code 62 = .ok (.iconst 0, 1) := by decide +kernel
theorem d_E_roundTo_63 : decode prog_2_method_9_code 63 = .ok (.istore 7, 2) := by decide +kernel
theorem d_E_roundTo_65 : decode prog_2_method_9_code 65 = .ok (.aload_n 0, 1) := by decide +kernel
theorem d_E_roundTo_66 : decode prog_2_method_9_code 66 = .ok (.dup, 1) := by decide +kernel
theorem d_E_roundTo_67 : decode prog_2_method_9_code 67 = .ok (.getfield 29, 3) := by decide +kernel
theorem d_E_roundTo_70 : decode prog_2_method_9_code 70 = .ok (.iload_n 2, 1) := by decide +kernel
theorem d_E_roundTo_71 : decode prog_2_method_9_code 71 = .ok (.lushr, 1) := by decide +kernel
theorem d_E_roundTo_72 : decode prog_2_method_9_code 72 = .ok (.putfield 29, 3) := by decide +kernel
theorem d_E_roundTo_75 : decode prog_2_method_9_code 75 = .ok (.aload_n 0, 1) := by decide +kernel
theorem d_E_roundTo_76 : decode prog_2_method_9_code 76 = .ok (.dup, 1) := by decide +kernel
theorem d_E_roundTo_77 : decode prog_2_method_9_code 77 = .ok (.getfield 32, 3) := by decide +kernel
theorem d_E_roundTo_80 : decode prog_2_method_9_code 80 = .ok (.iload_n 2, 1) := by decide +kernel
theorem d_E_roundTo_81 : decode prog_2_method_9_code 81 = .ok (.iadd, 1) := by decide +kernel
theorem d_E_roundTo_82 : decode prog_2_method_9_code 82 = .ok (.putfield 32, 3) := by decide +kernel
theorem d_E_roundTo_85 : decode prog_2_method_9_code 85 = .ok (.lload 5, 2) := by decide +kernel
theorem d_E_roundTo_87 : decode prog_2_method_9_code 87 = .ok (.lload_n 3, 1) := by decide +kernel
theorem d_E_roundTo_88 : decode prog_2_method_9_code 88 = .ok (.lcmp, 1) := by decide +kernel
theorem d_E_roundTo_89 : decode prog_2_method_9_code 89 = .ok (.ifCond .gt 28, 3) := by decide +kernel
theorem d_E_roundTo_92 : decode prog_2_method_9_code 92 = .ok (.lload 5, 2) := by decide +kernel
theorem d_E_roundTo_94 : decode prog_2_method_9_code 94 = .ok (.lload_n 3, 1) := by decide +kernel
theorem d_E_roundTo_95 : decode prog_2_method_9_code 95 = .ok (.lcmp, 1) := by decide +kernel
theorem d_E_roundTo_96 : decode prog_2_method_9_code 96 = .ok (.ifCond .ne 25, 3) := by decide +kernel
theorem d_E_roundTo_99 : decode prog_2_method_9_code 99 = .ok (.aload_n 0, 1) := by decide +kernel
theorem d_E_roundTo_100 : decode prog_2_method_9_code 100 = .ok (.getfield 35, 3) := by decide +kernel
theorem d_E_roundTo_103 : decode prog_2_method_9_code 103 = .ok (.ifCond .ne 14, 3) := by decide +kernel
theorem d_E_roundTo_106 : decode prog_2_method_9_code 106 = .ok (.aload_n 0, 1) := by decide +kernel
theorem d_E_roundTo_107 : decode prog_2_method_9_code 107 = .ok (.getfield 29, 3) := by decide +kernel
theorem d_E_roundTo_110 : decode prog_2_method_9_code 110 = .ok (.lconst 1, 1) := by decide +kernel
theorem d_E_roundTo_111 : decode prog_2_method_9_code 111 = .ok (.land, 1) := by decide +kernel
theorem d_E_roundTo_112 : decode prog_2_method_9_code 112 = .ok (.lconst 1, 1) := by decide +kernel
theorem d_E_roundTo_113 : decode prog_2_method_9_code 113 = .ok (.lcmp, 1) := by decide +kernel
theorem d_E_roundTo_114 : decode prog_2_method_9_code 114 = .ok (.ifCond .ne 7, 3) := by decide +kernel
theorem d_E_roundTo_117 : decode prog_2_method_9_code 117 = .ok (.iconst 1, 1) := by decide +kernel
theorem d_E_roundTo_118 : decode prog_2_method_9_code 118 = .ok (.goto 4, 3) := by decide +kernel
theorem d_E_roundTo_121 : decode prog_2_method_9_code 121 = .ok (.iconst 0, 1) := by decide +kernel
theorem d_E_roundTo_122 : decode prog_2_method_9_code 122 = .ok (.istore 8, 2) := by decide +kernel
theorem d_E_roundTo_124 : decode prog_2_method_9_code 124 = .ok (.aload_n 0, 1) := by decide +kernel
theorem d_E_roundTo_125 : decode prog_2_method_9_code 125 = .ok (.iconst 0, 1) := by decide +kernel
theorem d_E_roundTo_126 : decode prog_2_method_9_code 126 = .ok (.putfield 35, 3) := by decide +kernel
theorem d_E_roundTo_129 : decode prog_2_method_9_code 129 = .ok (.iload 8, 2) := by decide +kernel
theorem d_E_roundTo_131 : decode prog_2_method_9_code 131 = .ok (.ifCond .eq 18, 3) := by decide +kernel
theorem d_E_roundTo_134 : decode prog_2_method_9_code 134 = .ok (.aload_n 0, 1) := by decide +kernel
theorem d_E_roundTo_135 : decode prog_2_method_9_code 135 = .ok (.dup, 1) := by decide +kernel
theorem d_E_roundTo_136 : decode prog_2_method_9_code 136 = .ok (.getfield 29, 3) := by decide +kernel
theorem d_E_roundTo_139 : decode prog_2_method_9_code 139 = .ok (.lconst 1, 1) := by decide +kernel
theorem d_E_roundTo_140 : decode prog_2_method_9_code 140 = .ok (.ladd, 1) := by decide +kernel
theorem d_E_roundTo_141 : decode prog_2_method_9_code 141 = .ok (.putfield 29, 3) := by decide +kernel
theorem d_E_roundTo_144 : decode prog_2_method_9_code 144 = .ok (.aload_n 0, 1) := by decide +kernel
theorem d_E_roundTo_145 : decode prog_2_method_9_code 145 = .ok (.getfield 15, 3) := by decide +kernel
theorem d_E_roundTo_148 : decode prog_2_method_9_code 148 = .ok (.ireturn, 1) := by decide +kernel
theorem d_E_roundTo_149 : decode prog_2_method_9_code 149 = .ok (.iload 7, 2) := by decide +kernel
theorem d_E_roundTo_151 : decode prog_2_method_9_code 151 = .ok (.ifCond .eq 7, 3) := by decide +kernel
theorem d_E_roundTo_154 : decode prog_2_method_9_code 154 = .ok (.iconst 0, 1) := by decide +kernel
theorem d_E_roundTo_155 : decode prog_2_method_9_code 155 = .ok (.goto 8, 3) := by decide +kernel
theorem d_E_roundTo_158 : decode prog_2_method_9_code 158 = .ok (.aload_n 0, 1) := by decide +kernel
theorem d_E_roundTo_159 : decode prog_2_method_9_code 159 = .ok (.getfield 15, 3) := by decide +kernel
theorem d_E_roundTo_162 : decode prog_2_method_9_code 162 = .ok (.ineg, 1) := by decide +kernel
theorem d_E_roundTo_163 : decode prog_2_method_9_code 163 = .ok (.ireturn, 1) := by decide +kernel
theorem d_E_sizeOrder_0 : decode prog_2_method_7_code 0 = .ok (.aload_n 0, 1) := by decide +kernel
theorem d_E_sizeOrder_1 : decode prog_2_method_7_code 1 = .ok (.invokevirtual 51, 3) := by decide +kernel
theorem d_E_sizeOrder_4 : decode prog_2_method_7_code 4 = .ok (.aload_n 1, 1) := by decide +kernel
theorem d_E_sizeOrder_5 : decode prog_2_method_7_code 5 = .ok (.invokevirtual 51, 3) := by decide +kernel
theorem d_E_sizeOrder_8 : decode prog_2_method_7_code 8 = .ok (.aload_n 0, 1) := by decide +kernel
theorem d_E_sizeOrder_9 : decode prog_2_method_7_code 9 = .ok (.getfield 32, 3) := by decide +kernel
theorem d_E_sizeOrder_12 : decode prog_2_method_7_code 12 = .ok (.aload_n 1, 1) := by decide +kernel
theorem d_E_sizeOrder_13 : decode prog_2_method_7_code 13 = .ok (.getfield 32, 3) := by decide +kernel
theorem d_E_sizeOrder_16 : decode prog_2_method_7_code 16 = .ok (.if_icmp .eq 20, 3) := by decide +kernel
theorem d_E_sizeOrder_19 : decode prog_2_method_7_code 19 = .ok (.aload_n 0, 1) := by decide +kernel
theorem d_E_sizeOrder_20 : decode prog_2_method_7_code 20 = .ok (.getfield 32, 3) := by decide +kernel
theorem d_E_sizeOrder_23 : decode prog_2_method_7_code 23 = .ok (.aload_n 1, 1) := by decide +kernel
theorem d_E_sizeOrder_24 : decode prog_2_method_7_code 24 = .ok (.getfield 32, 3) := by decide +kernel
theorem d_E_sizeOrder_27 : decode prog_2_method_7_code 27 = .ok (.if_icmp .ge 7, 3) := by decide +kernel
theorem d_E_sizeOrder_30 : decode prog_2_method_7_code 30 = .ok (.iconst (-1), 1) := by decide +kernel
theorem d_E_sizeOrder_31 : decode prog_2_method_7_code 31 = .ok (.goto 4, 3) := by decide +kernel
theorem d_E_sizeOrder_34 : decode prog_2_method_7_code 34 = .ok (.iconst 1, 1) := by decide +kernel
theorem d_E_sizeOrder_35 : decode prog_2_method_7_code 35 = .ok (.ireturn, 1) := by decide +kernel
theorem d_E_sizeOrder_36 : decode prog_2_method_7_code 36 = .ok (.aload_n 0, 1) := by decide +kernel
theorem d_E_sizeOrder_37 : decode prog_2_method_7_code 37 = .ok (.getfield 19, 3) := by decide +kernel
theorem d_E_sizeOrder_40 : decode prog_2_method_7_code 40 = .ok (.aload_n 1, 1) := by decide +kernel
theorem d_E_sizeOrder_41 : decode prog_2_method_7_code 41 = .ok (.getfield 19, 3) := by decide +kernel
theorem d_E_sizeOrder_44 : decode prog_2_method_7_code 44 = .ok (.lcmp, 1) := by decide +kernel
theorem d_E_sizeOrder_45 : decode prog_2_method_7_code 45 = .ok (.ifCond .eq 21, 3) := by decide +kernel
theorem d_E_sizeOrder_48 : decode prog_2_method_7_code 48 = .ok (.aload_n 0, 1) := by decide +kernel
theorem d_E_sizeOrder_49 : decode prog_2_method_7_code 49 = .ok (.getfield 19, 3) := by decide +kernel
theorem d_E_sizeOrder_52 : decode prog_2_method_7_code 52 = .ok (.aload_n 1, 1) := by decide +kernel
theorem d_E_sizeOrder_53 : decode prog_2_method_7_code 53 = .ok (.getfield 19, 3) := by decide +kernel
theorem d_E_sizeOrder_56 : decode prog_2_method_7_code 56 = .ok (.lcmp, 1) := by decide +kernel
theorem d_E_sizeOrder_57 : decode prog_2_method_7_code 57 = .ok (.ifCond .ge 7, 3) := by decide +kernel
theorem d_E_sizeOrder_60 : decode prog_2_method_7_code 60 = .ok (.iconst (-1), 1) := by decide +kernel
theorem d_E_sizeOrder_61 : decode prog_2_method_7_code 61 = .ok (.goto 4, 3) := by decide +kernel
theorem d_E_sizeOrder_64 : decode prog_2_method_7_code 64 = .ok (.iconst 1, 1) := by decide +kernel
theorem d_E_sizeOrder_65 : decode prog_2_method_7_code 65 = .ok (.ireturn, 1) := by decide +kernel
theorem d_E_sizeOrder_66 : decode prog_2_method_7_code 66 = .ok (.aload_n 0, 1) := by decide +kernel
theorem d_E_sizeOrder_67 : decode prog_2_method_7_code 67 = .ok (.getfield 29, 3) := by decide +kernel
theorem d_E_sizeOrder_70 : decode prog_2_method_7_code 70 = .ok (.aload_n 1, 1) := by decide +kernel
theorem d_E_sizeOrder_71 : decode prog_2_method_7_code 71 = .ok (.getfield 29, 3) := by decide +kernel
theorem d_E_sizeOrder_74 : decode prog_2_method_7_code 74 = .ok (.lcmp, 1) := by decide +kernel
theorem d_E_sizeOrder_75 : decode prog_2_method_7_code 75 = .ok (.ifCond .eq 23, 3) := by decide +kernel
theorem d_E_sizeOrder_78 : decode prog_2_method_7_code 78 = .ok (.aload_n 0, 1) := by decide +kernel
theorem d_E_sizeOrder_79 : decode prog_2_method_7_code 79 = .ok (.getfield 29, 3) := by decide +kernel
theorem d_E_sizeOrder_82 : decode prog_2_method_7_code 82 = .ok (.aload_n 1, 1) := by decide +kernel
theorem d_E_sizeOrder_83 : decode prog_2_method_7_code 83 = .ok (.getfield 29, 3) := by decide +kernel
theorem d_E_sizeOrder_86 : decode prog_2_method_7_code 86 = .ok (.invokestatic 54, 3) := by decide +kernel
theorem d_E_sizeOrder_89 : decode prog_2_method_7_code 89 = .ok (.ifCond .ge 7, 3) := by decide +kernel
theorem d_E_sizeOrder_92 : decode prog_2_method_7_code 92 = .ok (.iconst (-1), 1) := by decide +kernel
theorem d_E_sizeOrder_93 : decode prog_2_method_7_code 93 = .ok (.goto 4, 3) := by decide +kernel
theorem d_E_sizeOrder_96 : decode prog_2_method_7_code 96 = .ok (.iconst 1, 1) := by decide +kernel
theorem d_E_sizeOrder_97 : decode prog_2_method_7_code 97 = .ok (.ireturn, 1) := by decide +kernel
theorem d_E_sizeOrder_98 : decode prog_2_method_7_code 98 = .ok (.aload_n 0, 1) := by decide +kernel
theorem d_E_sizeOrder_99 : decode prog_2_method_7_code 99 = .ok (.getfield 35, 3) := by decide +kernel
theorem d_E_sizeOrder_102 : decode prog_2_method_7_code 102 = .ok (.aload_n 1, 1) := by decide +kernel
theorem d_E_sizeOrder_103 : decode prog_2_method_7_code 103 = .ok (.getfield 35, 3) := by decide +kernel
theorem d_E_sizeOrder_106 : decode prog_2_method_7_code 106 = .ok (.if_icmp .ne 7, 3) := by decide +kernel
theorem d_E_sizeOrder_109 : decode prog_2_method_7_code 109 = .ok (.iconst 0, 1) := by decide +kernel
theorem d_E_sizeOrder_110 : decode prog_2_method_7_code 110 = .ok (.goto 15, 3) := by decide +kernel
theorem d_E_sizeOrder_113 : decode prog_2_method_7_code 113 = .ok (.aload_n 0, 1) := by decide +kernel
theorem d_E_sizeOrder_114 : decode prog_2_method_7_code 114 = .ok (.getfield 35, 3) := by decide +kernel
theorem d_E_sizeOrder_117 : decode prog_2_method_7_code 117 = .ok (.ifCond .eq 7, 3) := by decide +kernel
theorem d_E_sizeOrder_120 : decode prog_2_method_7_code 120 = .ok (.iconst 1, 1) := by decide +kernel
theorem d_E_sizeOrder_121 : decode prog_2_method_7_code 121 = .ok (.goto 4, 3) := by decide +kernel
theorem d_E_sizeOrder_124 : decode prog_2_method_7_code 124 = .ok (.iconst (-1), 1) := by decide +kernel
theorem d_E_sizeOrder_125 : decode prog_2_method_7_code 125 = .ok (.ireturn, 1) := by decide +kernel
theorem d_E_takeLesser_0 : decode prog_2_method_8_code 0 = .ok (.aload_n 1, 1) := by decide +kernel
theorem d_E_takeLesser_1 : decode prog_2_method_8_code 1 = .ok (.aload_n 0, 1) := by decide +kernel
theorem d_E_takeLesser_2 : decode prog_2_method_8_code 2 = .ok (.getfield 32, 3) := by decide +kernel
theorem d_E_takeLesser_5 : decode prog_2_method_8_code 5 = .ok (.aload_n 1, 1) := by decide +kernel
theorem d_E_takeLesser_6 : decode prog_2_method_8_code 6 = .ok (.getfield 32, 3) := by decide +kernel
theorem d_E_takeLesser_9 : decode prog_2_method_8_code 9 = .ok (.isub, 1) := by decide +kernel
theorem d_E_takeLesser_10 : decode prog_2_method_8_code 10 = .ok (.invokevirtual 58, 3) := by decide +kernel
theorem d_E_takeLesser_13 : decode prog_2_method_8_code 13 = .ok (.aload_n 0, 1) := by decide +kernel
theorem d_E_takeLesser_14 : decode prog_2_method_8_code 14 = .ok (.aload_n 1, 1) := by decide +kernel
theorem d_E_takeLesser_15 : decode prog_2_method_8_code 15 = .ok (.getfield 35, 3) := by decide +kernel
theorem d_E_takeLesser_18 : decode prog_2_method_8_code 18 = .ok (.putfield 35, 3) := by decide +kernel
theorem d_E_takeLesser_21 : decode prog_2_method_8_code 21 = .ok (.aload_n 0, 1) := by decide +kernel
theorem d_E_takeLesser_22 : decode prog_2_method_8_code 22 = .ok (.getfield 15, 3) := by decide +kernel
theorem d_E_takeLesser_25 : decode prog_2_method_8_code 25 = .ok (.aload_n 1, 1) := by decide +kernel
theorem d_E_takeLesser_26 : decode prog_2_method_8_code 26 = .ok (.getfield 15, 3) := by decide +kernel
theorem d_E_takeLesser_29 : decode prog_2_method_8_code 29 = .ok (.if_icmp .ne 51, 3) := by decide +kernel
theorem d_E_takeLesser_32 : decode prog_2_method_8_code 32 = .ok (.aload_n 0, 1) := by decide +kernel
theorem d_E_takeLesser_33 : decode prog_2_method_8_code 33 = .ok (.dup, 1) := by decide +kernel
theorem d_E_takeLesser_34 : decode prog_2_method_8_code 34 = .ok (.getfield 29, 3) := by decide +kernel
theorem d_E_takeLesser_37 : decode prog_2_method_8_code 37 = .ok (.aload_n 1, 1) := by decide +kernel
theorem d_E_takeLesser_38 : decode prog_2_method_8_code 38 = .ok (.getfield 29, 3) := by decide +kernel
theorem d_E_takeLesser_41 : decode prog_2_method_8_code 41 = .ok (.ladd, 1) := by decide +kernel
theorem d_E_takeLesser_42 : decode prog_2_method_8_code 42 = .ok (.putfield 29, 3) := by decide +kernel
theorem d_E_takeLesser_45 : decode prog_2_method_8_code 45 = .ok (.aload_n 0, 1) := by decide +kernel
theorem d_E_takeLesser_46 : decode prog_2_method_8_code 46 = .ok (.dup, 1) := by decide +kernel
theorem d_E_takeLesser_47 : decode prog_2_method_8_code 47 = .ok (.getfield 19, 3) := by decide +kernel
theorem d_E_takeLesser_50 : decode prog_2_method_8_code 50 = .ok (.aload_n 1, 1) := by decide +kernel
theorem d_E_takeLesser_51 : decode prog_2_method_8_code 51 = .ok (.getfield 19, 3) := by decide +kernel
theorem d_E_takeLesser_54 : decode prog_2_method_8_code 54 = .ok (.aload_n 0, 1) := by decide +kernel
theorem d_E_takeLesser_55 : decode prog_2_method_8_code 55 = .ok (.getfield 29, 3) := by decide +kernel
theorem d_E_takeLesser_58 : decode prog_2_method_8_code 58 = .ok (.aload_n 1, 1) := by decide +kernel
theorem d_E_takeLesser_59 : decode prog_2_method_8_code 59 = .ok (.getfield 29, 3) := by decide +kernel
theorem d_E_takeLesser_62 : decode prog_2_method_8_code 62 = .ok (.invokestatic 54, 3) := by decide +kernel
theorem d_E_takeLesser_65 : decode prog_2_method_8_code 65 = .ok (.ifCond .ge 7, 3) := by decide +kernel
theorem d_E_takeLesser_68 : decode prog_2_method_8_code 68 = .ok (.iconst 1, 1) := by decide +kernel
theorem d_E_takeLesser_69 : decode prog_2_method_8_code 69 = .ok (.goto 4, 3) := by decide +kernel
theorem d_E_takeLesser_72 : decode prog_2_method_8_code 72 = .ok (.iconst 0, 1) := by decide +kernel
theorem d_E_takeLesser_73 : decode prog_2_method_8_code 73 = .ok (.i2l, 1) := by decide +kernel
theorem d_E_takeLesser_74 : decode prog_2_method_8_code 74 = .ok (.ladd, 1) := by decide +kernel
theorem d_E_takeLesser_75 : decode prog_2_method_8_code 75 = .ok (.ladd, 1) := by decide +kernel
theorem d_E_takeLesser_76 : decode prog_2_method_8_code 76 = .ok (.putfield 19, 3) := by decide +kernel
theorem d_E_takeLesser_79 : decode prog_2_method_8_code 79 = .ok (.return_, 1) := by decide +kernel
theorem d_E_takeLesser_80 : decode prog_2_method_8_code 80 = .ok (.aload_n 0, 1) := by decide +kernel
theorem d_E_takeLesser_81 : decode prog_2_method_8_code 81 = .ok (.dup, 1) := by decide +kernel
theorem d_E_takeLesser_82 : decode prog_2_method_8_code 82 = .ok (.getfield 19, 3) := by decide +kernel
theorem d_E_takeLesser_85 : decode prog_2_method_8_code 85 = .ok (.aload_n 1, 1) := by decide +kernel
theorem d_E_takeLesser_86 : decode prog_2_method_8_code 86 = .ok (.getfield 19, 3) := by decide +kernel
theorem d_E_takeLesser_89 : decode prog_2_method_8_code 89 = .ok (.aload_n 0, 1) := by decide +kernel
theorem d_E_takeLesser_90 : decode prog_2_method_8_code 90 = .ok (.getfield 29, 3) := by decide +kernel
theorem d_E_takeLesser_93 : decode prog_2_method_8_code 93 = .ok (.aload_n 1, 1) := by decide +kernel
theorem d_E_takeLesser_94 : decode prog_2_method_8_code 94 = .ok (.getfield 29, 3) := by decide +kernel
theorem d_E_takeLesser_97 : decode prog_2_method_8_code 97 = .ok (.invokestatic 54, 3) := by decide +kernel
theorem d_E_takeLesser_100 : decode prog_2_method_8_code 100 = .ok (.ifCond .ge 7, 3) := by decide +kernel
theorem d_E_takeLesser_103 : decode prog_2_method_8_code 103 = .ok (.iconst 1, 1) := by decide +kernel
theorem d_E_takeLesser_104 : decode prog_2_method_8_code 104 = .ok (.goto 4, 3) := by decide +kernel
theorem d_E_takeLesser_107 : decode prog_2_method_8_code 107 = .ok (.iconst 0, 1) := by decide +kernel
theorem d_E_takeLesser_108 : decode prog_2_method_8_code 108 = .ok (.i2l, 1) := by decide +kernel
theorem d_E_takeLesser_109 : decode prog_2_method_8_code 109 = .ok (.ladd, 1) := by decide +kernel
theorem d_E_takeLesser_110 : decode prog_2_method_8_code 110 = .ok (.lsub, 1) := by decide +kernel
theorem d_E_takeLesser_111 : decode prog_2_method_8_code 111 = .ok (.putfield 19, 3) := by decide +kernel
theorem d_E_takeLesser_114 : decode prog_2_method_8_code 114 = .ok (.aload_n 0, 1) := by decide +kernel
theorem d_E_takeLesser_115 : decode prog_2_method_8_code 115 = .ok (.dup, 1) := by decide +kernel
theorem d_E_takeLesser_116 : decode prog_2_method_8_code 116 = .ok (.getfield 29, 3) := by decide +kernel
theorem d_E_takeLesser_119 : decode prog_2_method_8_code 119 = .ok (.aload_n 1, 1) := by decide +kernel
theorem d_E_takeLesser_120 : decode prog_2_method_8_code 120 = .ok (.getfield 29, 3) := by decide +kernel
theorem d_E_takeLesser_123 : decode prog_2_method_8_code 123 = .ok (.lsub, 1) := by decide +kernel
theorem d_E_takeLesser_124 : decode prog_2_method_8_code 124 = .ok (.putfield 29, 3) := by decide +kernel
theorem d_E_takeLesser_127 : decode prog_2_method_8_code 127 = .ok (.aload_n 0, 1) := by decide +kernel
theorem d_E_takeLesser_128 : decode prog_2_method_8_code 128 = .ok (.getfield 35, 3) := by decide +kernel
theorem d_E_takeLesser_131 : decode prog_2_method_8_code 131 = .ok (.ifCond .eq 36, 3) := by decide +kernel
theorem d_E_takeLesser_134 : decode prog_2_method_8_code 134 = .ok (.aload_n 0, 1) := by decide +kernel
theorem d_E_takeLesser_135 : decode prog_2_method_8_code 135 = .ok (.dup, 1) := by decide +kernel
theorem d_E_takeLesser_136 : decode prog_2_method_8_code 136 = .ok (.getfield 19, 3) := by decide +kernel
theorem d_E_takeLesser_139 : decode prog_2_method_8_code 139 = .ok (.aload_n 0, 1) := by decide +kernel
theorem d_E_takeLesser_140 : decode prog_2_method_8_code 140 = .ok (.getfield 29, 3) := by decide +kernel
theorem d_E_takeLesser_143 : decode prog_2_method_8_code 143 = .ok (.lconst 0, 1) := by decide +kernel
theorem d_E_takeLesser_144 : decode prog_2_method_8_code 144 = .ok (.lcmp, 1) := by decide +kernel
theorem d_E_takeLesser_145 : decode prog_2_method_8_code 145 = .ok (.ifCond .ne 7, 3) := by decide +kernel
theorem d_E_takeLesser_148 : decode prog_2_method_8_code 148 = .ok (.lconst 1, 1) := by decide +kernel
theorem d_E_takeLesser_149 : decode prog_2_method_8_code 149 = .ok (.goto 4, 3) := by decide +kernel
theorem d_E_takeLesser_152 : decode prog_2_method_8_code 152 = .ok (.lconst 0, 1) := by decide +kernel
theorem d_E_takeLesser_153 : decode prog_2_method_8_code 153 = .ok (.lsub, 1) := by decide +kernel
theorem d_E_takeLesser_154 : decode prog_2_method_8_code 154 = .ok (.putfield 19, 3) := by decide +kernel
theorem d_E_takeLesser_157 : decode prog_2_method_8_code 157 = .ok (.aload_n 0, 1) := by decide +kernel
theorem d_E_takeLesser_158 : decode prog_2_method_8_code 158 = .ok (.dup, 1) := by decide +kernel
theorem d_E_takeLesser_159 : decode prog_2_method_8_code 159 = .ok (.getfield 29, 3) := by decide +kernel
theorem d_E_takeLesser_162 : decode prog_2_method_8_code 162 = .ok (.lconst 1, 1) := by decide +kernel
theorem d_E_takeLesser_163 : decode prog_2_method_8_code 163 = .ok (.lsub, 1) := by decide +kernel
theorem d_E_takeLesser_164 : decode prog_2_method_8_code 164 = .ok (.putfield 29, 3) := by decide +kernel
theorem d_E_takeLesser_167 : decode prog_2_method_8_code 167 = .ok (.aload_n 0, 1) := by decide +kernel
theorem d_E_takeLesser_168 : decode prog_2_method_8_code 168 = .ok (.getfield 19, 3) := by decide +kernel
theorem d_E_takeLesser_171 : decode prog_2_method_8_code 171 = .ok (.lconst 0, 1) := by decide +kernel
theorem d_E_takeLesser_172 : decode prog_2_method_8_code 172 = .ok (.lcmp, 1) := by decide +kernel
theorem d_E_takeLesser_173 : decode prog_2_method_8_code 173 = .ok (.ifCond .ne 17, 3) := by decide +kernel
theorem d_E_takeLesser_176 : decode prog_2_method_8_code 176 = .ok (.aload_n 0, 1) := by decide +kernel
theorem d_E_takeLesser_177 : decode prog_2_method_8_code 177 = .ok (.getfield 29, 3) := by decide +kernel
theorem d_E_takeLesser_180 : decode prog_2_method_8_code 180 = .ok (.lconst 0, 1) := by decide +kernel
theorem d_E_takeLesser_181 : decode prog_2_method_8_code 181 = .ok (.lcmp, 1) := by decide +kernel
theorem d_E_takeLesser_182 : decode prog_2_method_8_code 182 = .ok (.ifCond .ne 8, 3) := by decide +kernel
theorem d_E_takeLesser_185 : decode prog_2_method_8_code 185 = .ok (.aload_n 0, 1) := by decide +kernel
theorem d_E_takeLesser_186 : decode prog_2_method_8_code 186 = .ok (.iconst 0, 1) := by decide +kernel
theorem d_E_takeLesser_187 : decode prog_2_method_8_code 187 = .ok (.putfield 15, 3) := by decide +kernel
theorem d_E_takeLesser_190 : decode prog_2_method_8_code 190 = .ok (.return_, 1) := by decide +kernel
theorem d_E_sum_0 : decode prog_2_method_6_code 0 = .ok (.aload_n 1, 1) := by decide +kernel
theorem d_E_sum_1 : decode prog_2_method_6_code 1 = .ok (.getfield 15, 3) := by decide +kernel
theorem d_E_sum_4 : decode prog_2_method_6_code 4 = .ok (.ifCond .ne 5, 3) := by decide +kernel
theorem d_E_sum_7 : decode prog_2_method_6_code 7 = .ok (.aload_n 0, 1) := by decide +kernel
theorem d_E_sum_8 : decode prog_2_method_6_code 8 = .ok (.areturn, 1) := by decide +kernel
theorem d_E_sum_9 : decode prog_2_method_6_code 9 = .ok (.aload_n 0, 1) := by decide +kernel
theorem d_E_sum_10 : decode prog_2_method_6_code 10 = .ok (.getfield 15, 3) := by decide +kernel
theorem d_E_sum_13 : decode prog_2_method_6_code 13 = .ok (.ifCond .ne 5, 3) := by decide +kernel
theorem d_E_sum_16 : decode prog_2_method_6_code 16 = .ok (.aload_n 1, 1) := by decide +kernel
theorem d_E_sum_17 : decode prog_2_method_6_code 17 = .ok (.areturn, 1) := by decide +kernel
theorem d_E_sum_18 : decode prog_2_method_6_code 18 = .ok (.aload_n 0, 1) := by decide +kernel
theorem d_E_sum_19 : decode prog_2_method_6_code 19 = .ok (.aload_n 1, 1) := by decide +kernel
theorem d_E_sum_20 : decode prog_2_method_6_code 20 = .ok (.invokevirtual 43, 3) := by decide +kernel
theorem d_E_sum_23 : decode prog_2_method_6_code 23 = .ok (.ifCond .lt 10, 3) := by decide +kernel
theorem d_E_sum_26 : decode prog_2_method_6_code 26 = .ok (.aload_n 0, 1) := by decide +kernel
theorem d_E_sum_27 : decode prog_2_method_6_code 27 = .ok (.aload_n 1, 1) := by decide +kernel
theorem d_E_sum_28 : decode prog_2_method_6_code 28 = .ok (.invokevirtual 47, 3) := by decide +kernel
theorem d_E_sum_31 : decode prog_2_method_6_code 31 = .ok (.aload_n 0, 1) := by decide +kernel
theorem d_E_sum_32 : decode prog_2_method_6_code 32 = .ok (.areturn, 1) := by decide +kernel
theorem d_E_sum_33 : decode prog_2_method_6_code 33 = .ok (.aload_n 1, 1) := by decide +kernel
theorem d_E_sum_34 : decode prog_2_method_6_code 34 = .ok (.aload_n 0, 1) := by decide +kernel
theorem d_E_sum_35 : decode prog_2_method_6_code 35 = .ok (.invokevirtual 47, 3) := by decide +kernel
theorem d_E_sum_38 : decode prog_2_method_6_code 38 = .ok (.aload_n 1, 1) := by decide +kernel
theorem d_E_sum_39 : decode prog_2_method_6_code 39 = .ok (.areturn, 1) := by decide +kernel
