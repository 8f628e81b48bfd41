theorem d_Co_colourRow_0 : decode b_Co_colourRow 0 = .ok (.bipush (9), 2) := by decide +kernel
theorem d_Co_colourRow_2 : decode b_Co_colourRow 2 = .ok (.iload_n 0, 1) := by decide +kernel
theorem d_Co_colourRow_3 : decode b_Co_colourRow 3 = .ok (.imul, 1) := by decide +kernel
theorem d_Co_colourRow_4 : decode b_Co_colourRow 4 = .ok (.iconst (1), 1) := by decide +kernel
theorem d_Co_colourRow_5 : decode b_Co_colourRow 5 = .ok (.iadd, 1) := by decide +kernel
theorem d_Co_colourRow_6 : decode b_Co_colourRow 6 = .ok (.istore_n 1, 1) := by decide +kernel
theorem d_Co_colourRow_7 : decode b_Co_colourRow 7 = .ok (.lconst 0, 1) := by decide +kernel
theorem d_Co_colourRow_8 : decode b_Co_colourRow 8 = .ok (.lstore_n 2, 1) := by decide +kernel
theorem d_Co_colourRow_9 : decode b_Co_colourRow 9 = .ok (.iconst (0), 1) := by decide +kernel
theorem d_Co_colourRow_10 : decode b_Co_colourRow 10 = .ok (.istore 4, 2) := by decide +kernel
theorem d_Co_colourRow_12 : decode b_Co_colourRow 12 = .ok (.iload 4, 2) := by decide +kernel
theorem d_Co_colourRow_14 : decode b_Co_colourRow 14 = .ok (.bipush (54), 2) := by decide +kernel
theorem d_Co_colourRow_16 : decode b_Co_colourRow 16 = .ok (.if_icmp .ge (38), 3) := by decide +kernel
theorem d_Co_colourRow_19 : decode b_Co_colourRow 19 = .ok (.lload_n 2, 1) := by decide +kernel
theorem d_Co_colourRow_20 : decode b_Co_colourRow 20 = .ok (.iload_n 1, 1) := by decide +kernel
theorem d_Co_colourRow_21 : decode b_Co_colourRow 21 = .ok (.iconst (1), 1) := by decide +kernel
theorem d_Co_colourRow_22 : decode b_Co_colourRow 22 = .ok (.iand, 1) := by decide +kernel
theorem d_Co_colourRow_23 : decode b_Co_colourRow 23 = .ok (.i2l, 1) := by decide +kernel
theorem d_Co_colourRow_24 : decode b_Co_colourRow 24 = .ok (.iload 4, 2) := by decide +kernel
theorem d_Co_colourRow_26 : decode b_Co_colourRow 26 = .ok (.lshl, 1) := by decide +kernel
theorem d_Co_colourRow_27 : decode b_Co_colourRow 27 = .ok (.lor, 1) := by decide +kernel
theorem d_Co_colourRow_28 : decode b_Co_colourRow 28 = .ok (.lstore_n 2, 1) := by decide +kernel
theorem d_Co_colourRow_29 : decode b_Co_colourRow 29 = .ok (.iload_n 1, 1) := by decide +kernel
theorem d_Co_colourRow_30 : decode b_Co_colourRow 30 = .ok (.iload_n 1, 1) := by decide +kernel
theorem d_Co_colourRow_31 : decode b_Co_colourRow 31 = .ok (.iconst (3), 1) := by decide +kernel
theorem d_Co_colourRow_32 : decode b_Co_colourRow 32 = .ok (.iushr, 1) := by decide +kernel
theorem d_Co_colourRow_33 : decode b_Co_colourRow 33 = .ok (.ixor, 1) := by decide +kernel
theorem d_Co_colourRow_34 : decode b_Co_colourRow 34 = .ok (.iconst (1), 1) := by decide +kernel
theorem d_Co_colourRow_35 : decode b_Co_colourRow 35 = .ok (.iand, 1) := by decide +kernel
theorem d_Co_colourRow_36 : decode b_Co_colourRow 36 = .ok (.istore 5, 2) := by decide +kernel
theorem d_Co_colourRow_38 : decode b_Co_colourRow 38 = .ok (.iload_n 1, 1) := by decide +kernel
theorem d_Co_colourRow_39 : decode b_Co_colourRow 39 = .ok (.iconst (1), 1) := by decide +kernel
theorem d_Co_colourRow_40 : decode b_Co_colourRow 40 = .ok (.iushr, 1) := by decide +kernel
theorem d_Co_colourRow_41 : decode b_Co_colourRow 41 = .ok (.iload 5, 2) := by decide +kernel
theorem d_Co_colourRow_43 : decode b_Co_colourRow 43 = .ok (.bipush (6), 2) := by decide +kernel
theorem d_Co_colourRow_45 : decode b_Co_colourRow 45 = .ok (.ishl, 1) := by decide +kernel
theorem d_Co_colourRow_46 : decode b_Co_colourRow 46 = .ok (.ior, 1) := by decide +kernel
theorem d_Co_colourRow_47 : decode b_Co_colourRow 47 = .ok (.istore_n 1, 1) := by decide +kernel
theorem d_Co_colourRow_48 : decode b_Co_colourRow 48 = .ok (.iinc 4 (1), 3) := by decide +kernel
theorem d_Co_colourRow_51 : decode b_Co_colourRow 51 = .ok (.goto (-39), 3) := by decide +kernel
theorem d_Co_colourRow_54 : decode b_Co_colourRow 54 = .ok (.lload_n 2, 1) := by decide +kernel
theorem d_Co_colourRow_55 : decode b_Co_colourRow 55 = .ok (.lreturn, 1) := by decide +kernel
theorem d_Co_checkOf_0 : decode b_Co_checkOf 0 = .ok (.sipush (4095), 3) := by decide +kernel
theorem d_Co_checkOf_3 : decode b_Co_checkOf 3 = .ok (.istore_n 1, 1) := by decide +kernel
theorem d_Co_checkOf_4 : decode b_Co_checkOf 4 = .ok (.bipush (19), 2) := by decide +kernel
theorem d_Co_checkOf_6 : decode b_Co_checkOf 6 = .ok (.istore_n 2, 1) := by decide +kernel
theorem d_Co_checkOf_7 : decode b_Co_checkOf 7 = .ok (.iload_n 2, 1) := by decide +kernel
theorem d_Co_checkOf_8 : decode b_Co_checkOf 8 = .ok (.ifCond .lt (34), 3) := by decide +kernel
theorem d_Co_checkOf_11 : decode b_Co_checkOf 11 = .ok (.iload_n 1, 1) := by decide +kernel
theorem d_Co_checkOf_12 : decode b_Co_checkOf 12 = .ok (.bipush (11), 2) := by decide +kernel
theorem d_Co_checkOf_14 : decode b_Co_checkOf 14 = .ok (.iushr, 1) := by decide +kernel
theorem d_Co_checkOf_15 : decode b_Co_checkOf 15 = .ok (.iload_n 0, 1) := by decide +kernel
theorem d_Co_checkOf_16 : decode b_Co_checkOf 16 = .ok (.iload_n 2, 1) := by decide +kernel
theorem d_Co_checkOf_17 : decode b_Co_checkOf 17 = .ok (.iushr, 1) := by decide +kernel
theorem d_Co_checkOf_18 : decode b_Co_checkOf 18 = .ok (.ixor, 1) := by decide +kernel
theorem d_Co_checkOf_19 : decode b_Co_checkOf 19 = .ok (.iconst (1), 1) := by decide +kernel
theorem d_Co_checkOf_20 : decode b_Co_checkOf 20 = .ok (.iand, 1) := by decide +kernel
theorem d_Co_checkOf_21 : decode b_Co_checkOf 21 = .ok (.istore_n 3, 1) := by decide +kernel
theorem d_Co_checkOf_22 : decode b_Co_checkOf 22 = .ok (.iload_n 1, 1) := by decide +kernel
theorem d_Co_checkOf_23 : decode b_Co_checkOf 23 = .ok (.iconst (1), 1) := by decide +kernel
theorem d_Co_checkOf_24 : decode b_Co_checkOf 24 = .ok (.ishl, 1) := by decide +kernel
theorem d_Co_checkOf_25 : decode b_Co_checkOf 25 = .ok (.iload_n 3, 1) := by decide +kernel
theorem d_Co_checkOf_26 : decode b_Co_checkOf 26 = .ok (.sipush (2063), 3) := by decide +kernel
theorem d_Co_checkOf_29 : decode b_Co_checkOf 29 = .ok (.imul, 1) := by decide +kernel
theorem d_Co_checkOf_30 : decode b_Co_checkOf 30 = .ok (.ixor, 1) := by decide +kernel
theorem d_Co_checkOf_31 : decode b_Co_checkOf 31 = .ok (.sipush (4095), 3) := by decide +kernel
theorem d_Co_checkOf_34 : decode b_Co_checkOf 34 = .ok (.iand, 1) := by decide +kernel
theorem d_Co_checkOf_35 : decode b_Co_checkOf 35 = .ok (.istore_n 1, 1) := by decide +kernel
theorem d_Co_checkOf_36 : decode b_Co_checkOf 36 = .ok (.iinc 2 (-1), 3) := by decide +kernel
theorem d_Co_checkOf_39 : decode b_Co_checkOf 39 = .ok (.goto (-32), 3) := by decide +kernel
theorem d_Co_checkOf_42 : decode b_Co_checkOf 42 = .ok (.iload_n 1, 1) := by decide +kernel
theorem d_Co_checkOf_43 : decode b_Co_checkOf 43 = .ok (.ireturn, 1) := by decide +kernel
theorem d_Co_wordOf_0 : decode b_Co_wordOf 0 = .ok (.iload_n 0, 1) := by decide +kernel
theorem d_Co_wordOf_1 : decode b_Co_wordOf 1 = .ok (.i2l, 1) := by decide +kernel
theorem d_Co_wordOf_2 : decode b_Co_wordOf 2 = .ok (.bipush (16), 2) := by decide +kernel
theorem d_Co_wordOf_4 : decode b_Co_wordOf 4 = .ok (.lshl, 1) := by decide +kernel
theorem d_Co_wordOf_5 : decode b_Co_wordOf 5 = .ok (.iload_n 0, 1) := by decide +kernel
theorem d_Co_wordOf_6 : decode b_Co_wordOf 6 = .ok (.invokestatic 35, 3) := by decide +kernel
theorem d_Co_wordOf_9 : decode b_Co_wordOf 9 = .ok (.i2l, 1) := by decide +kernel
theorem d_Co_wordOf_10 : decode b_Co_wordOf 10 = .ok (.iconst (4), 1) := by decide +kernel
theorem d_Co_wordOf_11 : decode b_Co_wordOf 11 = .ok (.lshl, 1) := by decide +kernel
theorem d_Co_wordOf_12 : decode b_Co_wordOf 12 = .ok (.lor, 1) := by decide +kernel
theorem d_Co_wordOf_13 : decode b_Co_wordOf 13 = .ok (.lreturn, 1) := by decide +kernel
theorem d_Co_nextPlace_0 : decode b_Co_nextPlace 0 = .ok (.iload_n 0, 1) := by decide +kernel
theorem d_Co_nextPlace_1 : decode b_Co_nextPlace 1 = .ok (.bipush (17), 2) := by decide +kernel
theorem d_Co_nextPlace_3 : decode b_Co_nextPlace 3 = .ok (.iadd, 1) := by decide +kernel
theorem d_Co_nextPlace_4 : decode b_Co_nextPlace 4 = .ok (.bipush (54), 2) := by decide +kernel
theorem d_Co_nextPlace_6 : decode b_Co_nextPlace 6 = .ok (.irem, 1) := by decide +kernel
theorem d_Co_nextPlace_7 : decode b_Co_nextPlace 7 = .ok (.ireturn, 1) := by decide +kernel
theorem d_Co_hasSecondSum_0 : decode b_Co_hasSecondSum 0 = .ok (.iload_n 0, 1) := by decide +kernel
theorem d_Co_hasSecondSum_1 : decode b_Co_hasSecondSum 1 = .ok (.iconst (1), 1) := by decide +kernel
theorem d_Co_hasSecondSum_2 : decode b_Co_hasSecondSum 2 = .ok (.iand, 1) := by decide +kernel
theorem d_Co_hasSecondSum_3 : decode b_Co_hasSecondSum 3 = .ok (.ifCond .ne (7), 3) := by decide +kernel
theorem d_Co_hasSecondSum_6 : decode b_Co_hasSecondSum 6 = .ok (.iconst (1), 1) := by decide +kernel
theorem d_Co_hasSecondSum_7 : decode b_Co_hasSecondSum 7 = .ok (.goto (4), 3) := by decide +kernel
theorem d_Co_hasSecondSum_10 : decode b_Co_hasSecondSum 10 = .ok (.iconst (0), 1) := by decide +kernel
theorem d_Co_hasSecondSum_11 : decode b_Co_hasSecondSum 11 = .ok (.ireturn, 1) := by decide +kernel
theorem d_Co_burstOf_0 : decode b_Co_burstOf 0 = .ok (.iload_n 1, 1) := by decide +kernel
theorem d_Co_burstOf_1 : decode b_Co_burstOf 1 = .ok (.ldc 38, 2) := by decide +kernel
theorem d_Co_burstOf_3 : decode b_Co_burstOf 3 = .ok (.iand, 1) := by decide +kernel
theorem d_Co_burstOf_4 : decode b_Co_burstOf 4 = .ok (.invokestatic 39, 3) := by decide +kernel
theorem d_Co_burstOf_7 : decode b_Co_burstOf 7 = .ok (.lstore_n 3, 1) := by decide +kernel
theorem d_Co_burstOf_8 : decode b_Co_burstOf 8 = .ok (.aload_n 0, 1) := by decide +kernel
theorem d_Co_burstOf_9 : decode b_Co_burstOf 9 = .ok (.getfield 11, 3) := by decide +kernel
theorem d_Co_burstOf_12 : decode b_Co_burstOf 12 = .ok (.iload_n 2, 1) := by decide +kernel
theorem d_Co_burstOf_13 : decode b_Co_burstOf 13 = .ok (.bipush (7), 2) := by decide +kernel
theorem d_Co_burstOf_15 : decode b_Co_burstOf 15 = .ok (.iand, 1) := by decide +kernel
theorem d_Co_burstOf_16 : decode b_Co_burstOf 16 = .ok (.laload, 1) := by decide +kernel
theorem d_Co_burstOf_17 : decode b_Co_burstOf 17 = .ok (.lstore 5, 2) := by decide +kernel
theorem d_Co_burstOf_19 : decode b_Co_burstOf 19 = .ok (.iconst (0), 1) := by decide +kernel
theorem d_Co_burstOf_20 : decode b_Co_burstOf 20 = .ok (.istore 7, 2) := by decide +kernel
theorem d_Co_burstOf_22 : decode b_Co_burstOf 22 = .ok (.iconst (0), 1) := by decide +kernel
theorem d_Co_burstOf_23 : decode b_Co_burstOf 23 = .ok (.istore 8, 2) := by decide +kernel
theorem d_Co_burstOf_25 : decode b_Co_burstOf 25 = .ok (.iload 8, 2) := by decide +kernel
theorem d_Co_burstOf_27 : decode b_Co_burstOf 27 = .ok (.bipush (36), 2) := by decide +kernel
theorem d_Co_burstOf_29 : decode b_Co_burstOf 29 = .ok (.if_icmp .ge (75), 3) := by decide +kernel
theorem d_Co_burstOf_32 : decode b_Co_burstOf 32 = .ok (.aload_n 0, 1) := by decide +kernel
theorem d_Co_burstOf_33 : decode b_Co_burstOf 33 = .ok (.getfield 19, 3) := by decide +kernel
theorem d_Co_burstOf_36 : decode b_Co_burstOf 36 = .ok (.lload_n 3, 1) := by decide +kernel
theorem d_Co_burstOf_37 : decode b_Co_burstOf 37 = .ok (.bipush (35), 2) := by decide +kernel
theorem d_Co_burstOf_39 : decode b_Co_burstOf 39 = .ok (.iload 8, 2) := by decide +kernel
theorem d_Co_burstOf_41 : decode b_Co_burstOf 41 = .ok (.isub, 1) := by decide +kernel
theorem d_Co_burstOf_42 : decode b_Co_burstOf 42 = .ok (.lushr, 1) := by decide +kernel
theorem d_Co_burstOf_43 : decode b_Co_burstOf 43 = .ok (.l2i, 1) := by decide +kernel
theorem d_Co_burstOf_44 : decode b_Co_burstOf 44 = .ok (.bipush (31), 2) := by decide +kernel
theorem d_Co_burstOf_46 : decode b_Co_burstOf 46 = .ok (.iand, 1) := by decide +kernel
theorem d_Co_burstOf_47 : decode b_Co_burstOf 47 = .ok (.iaload, 1) := by decide +kernel
theorem d_Co_burstOf_48 : decode b_Co_burstOf 48 = .ok (.istore 9, 2) := by decide +kernel
theorem d_Co_burstOf_50 : decode b_Co_burstOf 50 = .ok (.lload 5, 2) := by decide +kernel
theorem d_Co_burstOf_52 : decode b_Co_burstOf 52 = .ok (.iload 9, 2) := by decide +kernel
theorem d_Co_burstOf_54 : decode b_Co_burstOf 54 = .ok (.iconst (1), 1) := by decide +kernel
theorem d_Co_burstOf_55 : decode b_Co_burstOf 55 = .ok (.iand, 1) := by decide +kernel
theorem d_Co_burstOf_56 : decode b_Co_burstOf 56 = .ok (.i2l, 1) := by decide +kernel
theorem d_Co_burstOf_57 : decode b_Co_burstOf 57 = .ok (.iload 7, 2) := by decide +kernel
theorem d_Co_burstOf_59 : decode b_Co_burstOf 59 = .ok (.lshl, 1) := by decide +kernel
theorem d_Co_burstOf_60 : decode b_Co_burstOf 60 = .ok (.lxor, 1) := by decide +kernel
theorem d_Co_burstOf_61 : decode b_Co_burstOf 61 = .ok (.lstore 5, 2) := by decide +kernel
theorem d_Co_burstOf_63 : decode b_Co_burstOf 63 = .ok (.iload 7, 2) := by decide +kernel
theorem d_Co_burstOf_65 : decode b_Co_burstOf 65 = .ok (.invokestatic 42, 3) := by decide +kernel
theorem d_Co_burstOf_68 : decode b_Co_burstOf 68 = .ok (.istore 7, 2) := by decide +kernel
theorem d_Co_burstOf_70 : decode b_Co_burstOf 70 = .ok (.iload 8, 2) := by decide +kernel
theorem d_Co_burstOf_72 : decode b_Co_burstOf 72 = .ok (.invokestatic 45, 3) := by decide +kernel
theorem d_Co_burstOf_75 : decode b_Co_burstOf 75 = .ok (.ifCond .eq (23), 3) := by decide +kernel
theorem d_Co_burstOf_78 : decode b_Co_burstOf 78 = .ok (.lload 5, 2) := by decide +kernel
theorem d_Co_burstOf_80 : decode b_Co_burstOf 80 = .ok (.iload 9, 2) := by decide +kernel
theorem d_Co_burstOf_82 : decode b_Co_burstOf 82 = .ok (.iconst (1), 1) := by decide +kernel
theorem d_Co_burstOf_83 : decode b_Co_burstOf 83 = .ok (.iushr, 1) := by decide +kernel
theorem d_Co_burstOf_84 : decode b_Co_burstOf 84 = .ok (.i2l, 1) := by decide +kernel
theorem d_Co_burstOf_85 : decode b_Co_burstOf 85 = .ok (.iload 7, 2) := by decide +kernel
theorem d_Co_burstOf_87 : decode b_Co_burstOf 87 = .ok (.lshl, 1) := by decide +kernel
theorem d_Co_burstOf_88 : decode b_Co_burstOf 88 = .ok (.lxor, 1) := by decide +kernel
theorem d_Co_burstOf_89 : decode b_Co_burstOf 89 = .ok (.lstore 5, 2) := by decide +kernel
theorem d_Co_burstOf_91 : decode b_Co_burstOf 91 = .ok (.iload 7, 2) := by decide +kernel
theorem d_Co_burstOf_93 : decode b_Co_burstOf 93 = .ok (.invokestatic 42, 3) := by decide +kernel
theorem d_Co_burstOf_96 : decode b_Co_burstOf 96 = .ok (.istore 7, 2) := by decide +kernel
theorem d_Co_burstOf_98 : decode b_Co_burstOf 98 = .ok (.iinc 8 (1), 3) := by decide +kernel
theorem d_Co_burstOf_101 : decode b_Co_burstOf 101 = .ok (.goto (-76), 3) := by decide +kernel
theorem d_Co_burstOf_104 : decode b_Co_burstOf 104 = .ok (.lload 5, 2) := by decide +kernel
theorem d_Co_burstOf_106 : decode b_Co_burstOf 106 = .ok (.lreturn, 1) := by decide +kernel
theorem d_Ar_fillJ_0 : decode b_Ar_fillJ 0 = .ok (.iconst (0), 1) := by decide +kernel
theorem d_Ar_fillJ_1 : decode b_Ar_fillJ 1 = .ok (.istore_n 3, 1) := by decide +kernel
theorem d_Ar_fillJ_2 : decode b_Ar_fillJ 2 = .ok (.aload_n 0, 1) := by decide +kernel
theorem d_Ar_fillJ_3 : decode b_Ar_fillJ 3 = .ok (.arraylength, 1) := by decide +kernel
theorem d_Ar_fillJ_4 : decode b_Ar_fillJ 4 = .ok (.istore 4, 2) := by decide +kernel
theorem d_Ar_fillJ_6 : decode b_Ar_fillJ 6 = .ok (.iload_n 3, 1) := by decide +kernel
theorem d_Ar_fillJ_7 : decode b_Ar_fillJ 7 = .ok (.iload 4, 2) := by decide +kernel
theorem d_Ar_fillJ_9 : decode b_Ar_fillJ 9 = .ok (.if_icmp .ge (13), 3) := by decide +kernel
theorem d_Ar_fillJ_12 : decode b_Ar_fillJ 12 = .ok (.aload_n 0, 1) := by decide +kernel
theorem d_Ar_fillJ_13 : decode b_Ar_fillJ 13 = .ok (.iload_n 3, 1) := by decide +kernel
theorem d_Ar_fillJ_14 : decode b_Ar_fillJ 14 = .ok (.lload_n 1, 1) := by decide +kernel
theorem d_Ar_fillJ_15 : decode b_Ar_fillJ 15 = .ok (.lastore, 1) := by decide +kernel
theorem d_Ar_fillJ_16 : decode b_Ar_fillJ 16 = .ok (.iinc 3 (1), 3) := by decide +kernel
theorem d_Ar_fillJ_19 : decode b_Ar_fillJ 19 = .ok (.goto (-13), 3) := by decide +kernel
theorem d_Ar_fillJ_22 : decode b_Ar_fillJ 22 = .ok (.return_, 1) := by decide +kernel
theorem d_Co_stepOn_0 : decode b_Co_stepOn 0 = .ok (.iconst (0), 1) := by decide +kernel
theorem d_Co_stepOn_1 : decode b_Co_stepOn 1 = .ok (.istore 7, 2) := by decide +kernel
theorem d_Co_stepOn_3 : decode b_Co_stepOn 3 = .ok (.iload 7, 2) := by decide +kernel
theorem d_Co_stepOn_5 : decode b_Co_stepOn 5 = .ok (.bipush (16), 2) := by decide +kernel
theorem d_Co_stepOn_7 : decode b_Co_stepOn 7 = .ok (.if_icmp .ge (95), 3) := by decide +kernel
theorem d_Co_stepOn_10 : decode b_Co_stepOn 10 = .ok (.iload 7, 2) := by decide +kernel
theorem d_Co_stepOn_12 : decode b_Co_stepOn 12 = .ok (.iconst (1), 1) := by decide +kernel
theorem d_Co_stepOn_13 : decode b_Co_stepOn 13 = .ok (.iushr, 1) := by decide +kernel
theorem d_Co_stepOn_14 : decode b_Co_stepOn 14 = .ok (.istore 8, 2) := by decide +kernel
theorem d_Co_stepOn_16 : decode b_Co_stepOn 16 = .ok (.aload_n 1, 1) := by decide +kernel
theorem d_Co_stepOn_17 : decode b_Co_stepOn 17 = .ok (.iload 8, 2) := by decide +kernel
theorem d_Co_stepOn_19 : decode b_Co_stepOn 19 = .ok (.laload, 1) := by decide +kernel
theorem d_Co_stepOn_20 : decode b_Co_stepOn 20 = .ok (.getstatic 67, 3) := by decide +kernel
theorem d_Co_stepOn_23 : decode b_Co_stepOn 23 = .ok (.aload_n 0, 1) := by decide +kernel
theorem d_Co_stepOn_24 : decode b_Co_stepOn 24 = .ok (.getfield 19, 3) := by decide +kernel
theorem d_Co_stepOn_27 : decode b_Co_stepOn 27 = .ok (.iload 7, 2) := by decide +kernel
theorem d_Co_stepOn_29 : decode b_Co_stepOn 29 = .ok (.iaload, 1) := by decide +kernel
theorem d_Co_stepOn_30 : decode b_Co_stepOn 30 = .ok (.iload_n 3, 1) := by decide +kernel
theorem d_Co_stepOn_31 : decode b_Co_stepOn 31 = .ok (.ixor, 1) := by decide +kernel
theorem d_Co_stepOn_32 : decode b_Co_stepOn 32 = .ok (.iload 4, 2) := by decide +kernel
theorem d_Co_stepOn_34 : decode b_Co_stepOn 34 = .ok (.iand, 1) := by decide +kernel
theorem d_Co_stepOn_35 : decode b_Co_stepOn 35 = .ok (.laload, 1) := by decide +kernel
theorem d_Co_stepOn_36 : decode b_Co_stepOn 36 = .ok (.ladd, 1) := by decide +kernel
theorem d_Co_stepOn_37 : decode b_Co_stepOn 37 = .ok (.lstore 9, 2) := by decide +kernel
theorem d_Co_stepOn_39 : decode b_Co_stepOn 39 = .ok (.aload_n 1, 1) := by decide +kernel
theorem d_Co_stepOn_40 : decode b_Co_stepOn 40 = .ok (.iload 8, 2) := by decide +kernel
theorem d_Co_stepOn_42 : decode b_Co_stepOn 42 = .ok (.bipush (8), 2) := by decide +kernel
theorem d_Co_stepOn_44 : decode b_Co_stepOn 44 = .ok (.iadd, 1) := by decide +kernel
theorem d_Co_stepOn_45 : decode b_Co_stepOn 45 = .ok (.laload, 1) := by decide +kernel
theorem d_Co_stepOn_46 : decode b_Co_stepOn 46 = .ok (.getstatic 67, 3) := by decide +kernel
theorem d_Co_stepOn_49 : decode b_Co_stepOn 49 = .ok (.aload_n 0, 1) := by decide +kernel
theorem d_Co_stepOn_50 : decode b_Co_stepOn 50 = .ok (.getfield 19, 3) := by decide +kernel
theorem d_Co_stepOn_53 : decode b_Co_stepOn 53 = .ok (.iload 7, 2) := by decide +kernel
theorem d_Co_stepOn_55 : decode b_Co_stepOn 55 = .ok (.bipush (16), 2) := by decide +kernel
theorem d_Co_stepOn_57 : decode b_Co_stepOn 57 = .ok (.iadd, 1) := by decide +kernel
theorem d_Co_stepOn_58 : decode b_Co_stepOn 58 = .ok (.iaload, 1) := by decide +kernel
theorem d_Co_stepOn_59 : decode b_Co_stepOn 59 = .ok (.iload_n 3, 1) := by decide +kernel
theorem d_Co_stepOn_60 : decode b_Co_stepOn 60 = .ok (.ixor, 1) := by decide +kernel
theorem d_Co_stepOn_61 : decode b_Co_stepOn 61 = .ok (.iload 4, 2) := by decide +kernel
theorem d_Co_stepOn_63 : decode b_Co_stepOn 63 = .ok (.iand, 1) := by decide +kernel
theorem d_Co_stepOn_64 : decode b_Co_stepOn 64 = .ok (.laload, 1) := by decide +kernel
theorem d_Co_stepOn_65 : decode b_Co_stepOn 65 = .ok (.ladd, 1) := by decide +kernel
theorem d_Co_stepOn_66 : decode b_Co_stepOn 66 = .ok (.lstore 11, 2) := by decide +kernel
theorem d_Co_stepOn_68 : decode b_Co_stepOn 68 = .ok (.aload_n 2, 1) := by decide +kernel
theorem d_Co_stepOn_69 : decode b_Co_stepOn 69 = .ok (.iload 7, 2) := by decide +kernel
theorem d_Co_stepOn_71 : decode b_Co_stepOn 71 = .ok (.lload 9, 2) := by decide +kernel
theorem d_Co_stepOn_73 : decode b_Co_stepOn 73 = .ok (.lload 11, 2) := by decide +kernel
theorem d_Co_stepOn_75 : decode b_Co_stepOn 75 = .ok (.lcmp, 1) := by decide +kernel
theorem d_Co_stepOn_76 : decode b_Co_stepOn 76 = .ok (.ifCond .ge (8), 3) := by decide +kernel
theorem d_Co_stepOn_79 : decode b_Co_stepOn 79 = .ok (.lload 9, 2) := by decide +kernel
theorem d_Co_stepOn_81 : decode b_Co_stepOn 81 = .ok (.goto (5), 3) := by decide +kernel
theorem d_Co_stepOn_84 : decode b_Co_stepOn 84 = .ok (.lload 11, 2) := by decide +kernel
theorem d_Co_stepOn_86 : decode b_Co_stepOn 86 = .ok (.iload 7, 2) := by decide +kernel
theorem d_Co_stepOn_88 : decode b_Co_stepOn 88 = .ok (.iconst (1), 1) := by decide +kernel
theorem d_Co_stepOn_89 : decode b_Co_stepOn 89 = .ok (.iand, 1) := by decide +kernel
theorem d_Co_stepOn_90 : decode b_Co_stepOn 90 = .ok (.i2l, 1) := by decide +kernel
theorem d_Co_stepOn_91 : decode b_Co_stepOn 91 = .ok (.lload 5, 2) := by decide +kernel
theorem d_Co_stepOn_93 : decode b_Co_stepOn 93 = .ok (.lmul, 1) := by decide +kernel
theorem d_Co_stepOn_94 : decode b_Co_stepOn 94 = .ok (.ladd, 1) := by decide +kernel
theorem d_Co_stepOn_95 : decode b_Co_stepOn 95 = .ok (.lastore, 1) := by decide +kernel
theorem d_Co_stepOn_96 : decode b_Co_stepOn 96 = .ok (.iinc 7 (1), 3) := by decide +kernel
theorem d_Co_stepOn_99 : decode b_Co_stepOn 99 = .ok (.goto (-96), 3) := by decide +kernel
theorem d_Co_stepOn_102 : decode b_Co_stepOn 102 = .ok (.return_, 1) := by decide +kernel
theorem d_Co_nearest_0 : decode b_Co_nearest 0 = .ok (.lload_n 1, 1) := by decide +kernel
theorem d_Co_nearest_1 : decode b_Co_nearest 1 = .ok (.aload_n 0, 1) := by decide +kernel
theorem d_Co_nearest_2 : decode b_Co_nearest 2 = .ok (.getfield 11, 3) := by decide +kernel
theorem d_Co_nearest_5 : decode b_Co_nearest 5 = .ok (.iload_n 3, 1) := by decide +kernel
theorem d_Co_nearest_6 : decode b_Co_nearest 6 = .ok (.bipush (7), 2) := by decide +kernel
theorem d_Co_nearest_8 : decode b_Co_nearest 8 = .ok (.iand, 1) := by decide +kernel
theorem d_Co_nearest_9 : decode b_Co_nearest 9 = .ok (.laload, 1) := by decide +kernel
theorem d_Co_nearest_10 : decode b_Co_nearest 10 = .ok (.lxor, 1) := by decide +kernel
theorem d_Co_nearest_11 : decode b_Co_nearest 11 = .ok (.lstore 4, 2) := by decide +kernel
theorem d_Co_nearest_13 : decode b_Co_nearest 13 = .ok (.aload_n 0, 1) := by decide +kernel
theorem d_Co_nearest_14 : decode b_Co_nearest 14 = .ok (.getfield 29, 3) := by decide +kernel
theorem d_Co_nearest_17 : decode b_Co_nearest 17 = .ok (.ldc2_w 55, 3) := by decide +kernel
theorem d_Co_nearest_20 : decode b_Co_nearest 20 = .ok (.invokestatic 57, 3) := by decide +kernel
theorem d_Co_nearest_23 : decode b_Co_nearest 23 = .ok (.aload_n 0, 1) := by decide +kernel
theorem d_Co_nearest_24 : decode b_Co_nearest 24 = .ok (.getfield 29, 3) := by decide +kernel
theorem d_Co_nearest_27 : decode b_Co_nearest 27 = .ok (.iconst (0), 1) := by decide +kernel
theorem d_Co_nearest_28 : decode b_Co_nearest 28 = .ok (.lconst 0, 1) := by decide +kernel
theorem d_Co_nearest_29 : decode b_Co_nearest 29 = .ok (.lastore, 1) := by decide +kernel
theorem d_Co_nearest_30 : decode b_Co_nearest 30 = .ok (.iconst (0), 1) := by decide +kernel
theorem d_Co_nearest_31 : decode b_Co_nearest 31 = .ok (.istore 6, 2) := by decide +kernel
theorem d_Co_nearest_33 : decode b_Co_nearest 33 = .ok (.iconst (0), 1) := by decide +kernel
theorem d_Co_nearest_34 : decode b_Co_nearest 34 = .ok (.istore 7, 2) := by decide +kernel
theorem d_Co_nearest_36 : decode b_Co_nearest 36 = .ok (.iload 7, 2) := by decide +kernel
theorem d_Co_nearest_38 : decode b_Co_nearest 38 = .ok (.bipush (36), 2) := by decide +kernel
theorem d_Co_nearest_40 : decode b_Co_nearest 40 = .ok (.if_icmp .ge (101), 3) := by decide +kernel
theorem d_Co_nearest_43 : decode b_Co_nearest 43 = .ok (.iload 6, 2) := by decide +kernel
theorem d_Co_nearest_45 : decode b_Co_nearest 45 = .ok (.invokestatic 42, 3) := by decide +kernel
theorem d_Co_nearest_48 : decode b_Co_nearest 48 = .ok (.istore 8, 2) := by decide +kernel
theorem d_Co_nearest_50 : decode b_Co_nearest 50 = .ok (.iload 8, 2) := by decide +kernel
theorem d_Co_nearest_52 : decode b_Co_nearest 52 = .ok (.invokestatic 42, 3) := by decide +kernel
theorem d_Co_nearest_55 : decode b_Co_nearest 55 = .ok (.istore 9, 2) := by decide +kernel
theorem d_Co_nearest_57 : decode b_Co_nearest 57 = .ok (.lload 4, 2) := by decide +kernel
theorem d_Co_nearest_59 : decode b_Co_nearest 59 = .ok (.iload 6, 2) := by decide +kernel
theorem d_Co_nearest_61 : decode b_Co_nearest 61 = .ok (.lushr, 1) := by decide +kernel
theorem d_Co_nearest_62 : decode b_Co_nearest 62 = .ok (.lconst 1, 1) := by decide +kernel
theorem d_Co_nearest_63 : decode b_Co_nearest 63 = .ok (.land, 1) := by decide +kernel
theorem d_Co_nearest_64 : decode b_Co_nearest 64 = .ok (.l2i, 1) := by decide +kernel
theorem d_Co_nearest_65 : decode b_Co_nearest 65 = .ok (.lload 4, 2) := by decide +kernel
theorem d_Co_nearest_67 : decode b_Co_nearest 67 = .ok (.iload 8, 2) := by decide +kernel
theorem d_Co_nearest_69 : decode b_Co_nearest 69 = .ok (.lushr, 1) := by decide +kernel
theorem d_Co_nearest_70 : decode b_Co_nearest 70 = .ok (.lconst 1, 1) := by decide +kernel
theorem d_Co_nearest_71 : decode b_Co_nearest 71 = .ok (.land, 1) := by decide +kernel
theorem d_Co_nearest_72 : decode b_Co_nearest 72 = .ok (.l2i, 1) := by decide +kernel
theorem d_Co_nearest_73 : decode b_Co_nearest 73 = .ok (.iconst (1), 1) := by decide +kernel
theorem d_Co_nearest_74 : decode b_Co_nearest 74 = .ok (.ishl, 1) := by decide +kernel
theorem d_Co_nearest_75 : decode b_Co_nearest 75 = .ok (.ior, 1) := by decide +kernel
theorem d_Co_nearest_76 : decode b_Co_nearest 76 = .ok (.istore 10, 2) := by decide +kernel
theorem d_Co_nearest_78 : decode b_Co_nearest 78 = .ok (.aload_n 0, 1) := by decide +kernel
theorem d_Co_nearest_79 : decode b_Co_nearest 79 = .ok (.aload_n 0, 1) := by decide +kernel
theorem d_Co_nearest_80 : decode b_Co_nearest 80 = .ok (.getfield 29, 3) := by decide +kernel
theorem d_Co_nearest_83 : decode b_Co_nearest 83 = .ok (.aload_n 0, 1) := by decide +kernel
theorem d_Co_nearest_84 : decode b_Co_nearest 84 = .ok (.getfield 32, 3) := by decide +kernel
theorem d_Co_nearest_87 : decode b_Co_nearest 87 = .ok (.iload 10, 2) := by decide +kernel
theorem d_Co_nearest_89 : decode b_Co_nearest 89 = .ok (.iconst (3), 1) := by decide +kernel
theorem d_Co_nearest_90 : decode b_Co_nearest 90 = .ok (.lconst 1, 1) := by decide +kernel
theorem d_Co_nearest_91 : decode b_Co_nearest 91 = .ok (.bipush (35), 2) := by decide +kernel
theorem d_Co_nearest_93 : decode b_Co_nearest 93 = .ok (.iload 7, 2) := by decide +kernel
theorem d_Co_nearest_95 : decode b_Co_nearest 95 = .ok (.isub, 1) := by decide +kernel
theorem d_Co_nearest_96 : decode b_Co_nearest 96 = .ok (.lshl, 1) := by decide +kernel
theorem d_Co_nearest_97 : decode b_Co_nearest 97 = .ok (.invokevirtual 63, 3) := by decide +kernel
theorem d_Co_nearest_100 : decode b_Co_nearest 100 = .ok (.aload_n 0, 1) := by decide +kernel
theorem d_Co_nearest_101 : decode b_Co_nearest 101 = .ok (.aload_n 0, 1) := by decide +kernel
theorem d_Co_nearest_102 : decode b_Co_nearest 102 = .ok (.getfield 32, 3) := by decide +kernel
theorem d_Co_nearest_105 : decode b_Co_nearest 105 = .ok (.aload_n 0, 1) := by decide +kernel
theorem d_Co_nearest_106 : decode b_Co_nearest 106 = .ok (.getfield 29, 3) := by decide +kernel
theorem d_Co_nearest_109 : decode b_Co_nearest 109 = .ok (.lload 4, 2) := by decide +kernel
theorem d_Co_nearest_111 : decode b_Co_nearest 111 = .ok (.iload 9, 2) := by decide +kernel
theorem d_Co_nearest_113 : decode b_Co_nearest 113 = .ok (.lushr, 1) := by decide +kernel
theorem d_Co_nearest_114 : decode b_Co_nearest 114 = .ok (.lconst 1, 1) := by decide +kernel
theorem d_Co_nearest_115 : decode b_Co_nearest 115 = .ok (.land, 1) := by decide +kernel
theorem d_Co_nearest_116 : decode b_Co_nearest 116 = .ok (.l2i, 1) := by decide +kernel
theorem d_Co_nearest_117 : decode b_Co_nearest 117 = .ok (.iconst (1), 1) := by decide +kernel
theorem d_Co_nearest_118 : decode b_Co_nearest 118 = .ok (.lconst 1, 1) := by decide +kernel
theorem d_Co_nearest_119 : decode b_Co_nearest 119 = .ok (.bipush (34), 2) := by decide +kernel
theorem d_Co_nearest_121 : decode b_Co_nearest 121 = .ok (.iload 7, 2) := by decide +kernel
theorem d_Co_nearest_123 : decode b_Co_nearest 123 = .ok (.isub, 1) := by decide +kernel
theorem d_Co_nearest_124 : decode b_Co_nearest 124 = .ok (.lshl, 1) := by decide +kernel
theorem d_Co_nearest_125 : decode b_Co_nearest 125 = .ok (.invokevirtual 63, 3) := by decide +kernel
theorem d_Co_nearest_128 : decode b_Co_nearest 128 = .ok (.iload 9, 2) := by decide +kernel
theorem d_Co_nearest_130 : decode b_Co_nearest 130 = .ok (.invokestatic 42, 3) := by decide +kernel
theorem d_Co_nearest_133 : decode b_Co_nearest 133 = .ok (.istore 6, 2) := by decide +kernel
theorem d_Co_nearest_135 : decode b_Co_nearest 135 = .ok (.iinc 7 (2), 3) := by decide +kernel
theorem d_Co_nearest_138 : decode b_Co_nearest 138 = .ok (.goto (-102), 3) := by decide +kernel
theorem d_Co_nearest_141 : decode b_Co_nearest 141 = .ok (.aload_n 0, 1) := by decide +kernel
theorem d_Co_nearest_142 : decode b_Co_nearest 142 = .ok (.getfield 29, 3) := by decide +kernel
theorem d_Co_nearest_145 : decode b_Co_nearest 145 = .ok (.iconst (0), 1) := by decide +kernel
theorem d_Co_nearest_146 : decode b_Co_nearest 146 = .ok (.laload, 1) := by decide +kernel
theorem d_Co_nearest_147 : decode b_Co_nearest 147 = .ok (.lreturn, 1) := by decide +kernel
theorem d_Co_unlikePlaces_0 : decode b_Co_unlikePlaces 0 = .ok (.lload_n 0, 1) := by decide +kernel
theorem d_Co_unlikePlaces_1 : decode b_Co_unlikePlaces 1 = .ok (.bipush (40), 2) := by decide +kernel
theorem d_Co_unlikePlaces_3 : decode b_Co_unlikePlaces 3 = .ok (.lushr, 1) := by decide +kernel
theorem d_Co_unlikePlaces_4 : decode b_Co_unlikePlaces 4 = .ok (.l2i, 1) := by decide +kernel
theorem d_Co_unlikePlaces_5 : decode b_Co_unlikePlaces 5 = .ok (.ireturn, 1) := by decide +kernel
theorem d_Co_blockOf_0 : decode b_Co_blockOf 0 = .ok (.aload_n 0, 1) := by decide +kernel
theorem d_Co_blockOf_1 : decode b_Co_blockOf 1 = .ok (.lload_n 1, 1) := by decide +kernel
theorem d_Co_blockOf_2 : decode b_Co_blockOf 2 = .ok (.iload_n 3, 1) := by decide +kernel
theorem d_Co_blockOf_3 : decode b_Co_blockOf 3 = .ok (.invokevirtual 49, 3) := by decide +kernel
theorem d_Co_blockOf_6 : decode b_Co_blockOf 6 = .ok (.ldc2_w 53, 3) := by decide +kernel
theorem d_Co_blockOf_9 : decode b_Co_blockOf 9 = .ok (.land, 1) := by decide +kernel
theorem d_Co_blockOf_10 : decode b_Co_blockOf 10 = .ok (.lstore 4, 2) := by decide +kernel
theorem d_Co_blockOf_12 : decode b_Co_blockOf 12 = .ok (.lload 4, 2) := by decide +kernel
theorem d_Co_blockOf_14 : decode b_Co_blockOf 14 = .ok (.bipush (16), 2) := by decide +kernel
theorem d_Co_blockOf_16 : decode b_Co_blockOf 16 = .ok (.lushr, 1) := by decide +kernel
theorem d_Co_blockOf_17 : decode b_Co_blockOf 17 = .ok (.l2i, 1) := by decide +kernel
theorem d_Co_blockOf_18 : decode b_Co_blockOf 18 = .ok (.istore 6, 2) := by decide +kernel
theorem d_Co_blockOf_20 : decode b_Co_blockOf 20 = .ok (.lload 4, 2) := by decide +kernel
theorem d_Co_blockOf_22 : decode b_Co_blockOf 22 = .ok (.iload 6, 2) := by decide +kernel
theorem d_Co_blockOf_24 : decode b_Co_blockOf 24 = .ok (.invokestatic 39, 3) := by decide +kernel
theorem d_Co_blockOf_27 : decode b_Co_blockOf 27 = .ok (.lcmp, 1) := by decide +kernel
theorem d_Co_blockOf_28 : decode b_Co_blockOf 28 = .ok (.ifCond .ne (8), 3) := by decide +kernel
theorem d_Co_blockOf_31 : decode b_Co_blockOf 31 = .ok (.iload 6, 2) := by decide +kernel
theorem d_Co_blockOf_33 : decode b_Co_blockOf 33 = .ok (.goto (4), 3) := by decide +kernel
theorem d_Co_blockOf_36 : decode b_Co_blockOf 36 = .ok (.iconst (-1), 1) := by decide +kernel
theorem d_Co_blockOf_37 : decode b_Co_blockOf 37 = .ok (.ireturn, 1) := by decide +kernel
def p_Co_colourRow_L12 (p0 : Int32) (post : Int64 → SI → SJ → Prop) : Nat → Int32 → Int64 → Int32 → SI → SJ → Prop
  | 0, _, _, _, _, _ => False
  | n + 1, v1, v2, v4, I, J => (((54 : Int32) ≤ v4 → post v2 I J) ∧ (¬ (54 : Int32) ≤ v4 → ∀ x4, x4 = v2 ||| (xll (Int32.toInt64 (v1 &&& (1 : Int32))) v4) → ∀ x5, x5 = (v1 ^^^ (xsu v1 (3 : Int32))) &&& (1 : Int32) → ∀ x6, x6 = (xsu v1 (1 : Int32)) ||| (xsl x5 (6 : Int32)) → ∀ x7, x7 = v4 + (1 : Int32) → p_Co_colourRow_L12 p0 post n x6 x4 x7 I J))
def p_Co_colourRow (p0 : Int32) (post : Int64 → SI → SJ → Prop) (I : SI) (J : SJ) : Prop :=
  ∀ x1, x1 = ((9 : Int32) * p0) + (1 : Int32) → ∀ x2, x2 = (0 : Int64) → ∀ x3, x3 = (0 : Int32) → ∃ n9, p_Co_colourRow_L12 p0 post n9 x1 x2 x3 I J
abbrev rm_Co_colourRow : Room := { frames := 0, cells := 0, slots := 0, locals := 0 }
def p_Co_checkOf_L7 (p0 : Int32) (post : Int32 → SI → SJ → Prop) : Nat → Int32 → Int32 → SI → SJ → Prop
  | 0, _, _, _, _ => False
  | n + 1, v1, v2, I, J => ((v2 < (0) → post v1 I J) ∧ (¬ v2 < (0) → ∀ x3, x3 = ((xsu v1 (11 : Int32)) ^^^ (xsu p0 v2)) &&& (1 : Int32) → ∀ x4, x4 = ((xsl v1 (1 : Int32)) ^^^ (x3 * (2063 : Int32))) &&& (4095 : Int32) → ∀ x5, x5 = v2 + (-1 : Int32) → p_Co_checkOf_L7 p0 post n x4 x5 I J))
def p_Co_checkOf (p0 : Int32) (post : Int32 → SI → SJ → Prop) (I : SI) (J : SJ) : Prop :=
  ∀ x1, x1 = (4095 : Int32) → ∀ x2, x2 = (19 : Int32) → ∃ n7, p_Co_checkOf_L7 p0 post n7 x1 x2 I J
abbrev rm_Co_checkOf : Room := { frames := 0, cells := 0, slots := 0, locals := 0 }
def p_Co_wordOf (p0 : Int32) (post : Int64 → SI → SJ → Prop) (I : SI) (J : SJ) : Prop :=
  p_Co_checkOf p0 (fun r3 I1 J2 => post ((xll (Int32.toInt64 p0) (16 : Int32)) ||| (xll (Int32.toInt64 r3) (4 : Int32))) I1 J2) I J
abbrev rm_Co_wordOf : Room := { frames := 1, cells := 0, slots := 0, locals := 23 }
def p_Co_nextPlace (p0 : Int32) (post : Int32 → SI → SJ → Prop) (I : SI) (J : SJ) : Prop :=
  post (xrm (p0 + (17 : Int32)) (54 : Int32)) I J
abbrev rm_Co_nextPlace : Room := { frames := 0, cells := 0, slots := 0, locals := 0 }
def p_Co_hasSecondSum (p0 : Int32) (post : Int32 → SI → SJ → Prop) (I : SI) (J : SJ) : Prop :=
  ((¬ (p0 &&& (1 : Int32)) = (0) → post (0 : Int32) I J) ∧ ((p0 &&& (1 : Int32)) = (0) → post (1 : Int32) I J))
abbrev rm_Co_hasSecondSum : Room := { frames := 0, cells := 0, slots := 0, locals := 0 }
def p_Co_burstOf_98 (p1 : Int32) (p2 : Int32) (post : Int64 → SI → SJ → Prop) (k25 : Int64 → Int64 → Int32 → Int32 → SI → SJ → Prop) (v3 : Int64) (v5 : Int64) (v7 : Int32) (v8 : Int32) (I : SI) (J : SJ) : Prop :=
  ∀ x17, x17 = v8 + (1 : Int32) → k25 v3 v5 v7 x17 I J
def p_Co_burstOf_L25 (p1 : Int32) (p2 : Int32) (post : Int64 → SI → SJ → Prop) : Nat → Int64 → Int64 → Int32 → Int32 → SI → SJ → Prop
  | 0, _, _, _, _, _, _ => False
  | n + 1, v3, v5, v7, v8, I, J => (((36 : Int32) ≤ v8 → post v5 I J) ∧ (¬ (36 : Int32) ≤ v8 → ∃ j8, (Int64.toInt32 (xlu v3 ((35 : Int32) - v8))) &&& (31 : Int32) = nI j8 ∧ j8 < 32 ∧ ∀ x9, x9 = I (3) j8 → ∀ x10, x10 = v5 ^^^ (xll (Int32.toInt64 (x9 &&& (1 : Int32))) v7) → p_Co_nextPlace v7 (fun r13 I11 J12 => p_Co_hasSecondSum v8 (fun r16 I14 J15 => ((r16 = (0) → p_Co_burstOf_98 p1 p2 post (p_Co_burstOf_L25 p1 p2 post n) v3 x10 r13 v8 I14 J15) ∧ (¬ r16 = (0) → ∀ x18, x18 = x10 ^^^ (xll (Int32.toInt64 (xsu x9 (1 : Int32))) r13) → p_Co_nextPlace r13 (fun r21 I19 J20 => p_Co_burstOf_98 p1 p2 post (p_Co_burstOf_L25 p1 p2 post n) v3 x18 r21 v8 I19 J20) I14 J15))) I11 J12) I J))
def p_Co_burstOf (p1 : Int32) (p2 : Int32) (post : Int64 → SI → SJ → Prop) (I : SI) (J : SJ) : Prop :=
  p_Co_wordOf (p1 &&& (1048575 : Int32)) (fun r3 I1 J2 => ∃ j4, p2 &&& (7 : Int32) = nI j4 ∧ j4 < 8 ∧ ∀ x5, x5 = J2 (2) j4 → ∀ x6, x6 = (0 : Int32) → ∀ x7, x7 = (0 : Int32) → ∃ n24, p_Co_burstOf_L25 p1 p2 post n24 r3 x5 x6 x7 I1 J2) I J
abbrev rm_Co_burstOf : Room := { frames := 2, cells := 0, slots := 0, locals := 43 }
def p_Ar_fillJ_L6 (a0 : Nat) (p1 : Int64) (post : SI → SJ → Prop) : Nat → Int32 → Int32 → SI → SJ → Prop
  | 0, _, _, _, _ => False
  | n + 1, v3, v4, I, J => ((v4 ≤ v3 → post I J) ∧ (¬ v4 ≤ v3 → ∃ j3, v3 = nI j3 ∧ j3 < 16 ∧ ∀ J4, J4 = xv J (4 + a0) j3 p1 → ∀ x5, x5 = v3 + (1 : Int32) → p_Ar_fillJ_L6 a0 p1 post n x5 v4 I J4))
def p_Ar_fillJ (a0 : Nat) (p1 : Int64) (post : SI → SJ → Prop) (I : SI) (J : SJ) : Prop :=
  ∀ x1, x1 = (0 : Int32) → ∀ x2, x2 = (16 : Int32) → ∃ n7, p_Ar_fillJ_L6 a0 p1 post n7 x1 x2 I J
abbrev rm_Ar_fillJ : Room := { frames := 0, cells := 0, slots := 0, locals := 0 }
def p_Co_stepOn_86 (a1 : Nat) (a2 : Nat) (p3 : Int32) (p4 : Int32) (p5 : Int64) (post : SI → SJ → Prop) (k3 : Int32 → SI → SJ → Prop) (v7 : Int32) (s0 : Int64) (s1 : Int32) (I : SI) (J : SJ) : Prop :=
  ∃ j11, s1 = nI j11 ∧ j11 < 16 ∧ ∀ J12, J12 = xv J (4 + a2) j11 (s0 + ((Int32.toInt64 (v7 &&& (1 : Int32))) * p5)) → ∀ x13, x13 = v7 + (1 : Int32) → k3 x13 I J12
def p_Co_stepOn_L3 (a1 : Nat) (a2 : Nat) (p3 : Int32) (p4 : Int32) (p5 : Int64) (post : SI → SJ → Prop) : Nat → Int32 → SI → SJ → Prop
  | 0, _, _, _ => False
  | n + 1, v7, I, J => (((16 : Int32) ≤ v7 → post I J) ∧ (¬ (16 : Int32) ≤ v7 → ∀ x2, x2 = xsu v7 (1 : Int32) → ∃ j3, x2 = nI j3 ∧ j3 < 16 ∧ ∃ j4, v7 = nI j4 ∧ j4 < 32 ∧ ∃ j5, ((I (3) j4) ^^^ p3) &&& p4 = nI j5 ∧ j5 < 4 ∧ ∀ x6, x6 = (J (4 + a1) j3) + (unlL j5) → ∃ j7, x2 + (8 : Int32) = nI j7 ∧ j7 < 16 ∧ ∃ j8, v7 + (16 : Int32) = nI j8 ∧ j8 < 32 ∧ ∃ j9, ((I (3) j8) ^^^ p3) &&& p4 = nI j9 ∧ j9 < 4 ∧ ∀ x10, x10 = (J (4 + a1) j7) + (unlL j9) → (((0) ≤ (lg_cmp x6 x10) → p_Co_stepOn_86 a1 a2 p3 p4 p5 post (p_Co_stepOn_L3 a1 a2 p3 p4 p5 post n) v7 x10 v7 I J) ∧ (¬ (0) ≤ (lg_cmp x6 x10) → p_Co_stepOn_86 a1 a2 p3 p4 p5 post (p_Co_stepOn_L3 a1 a2 p3 p4 p5 post n) v7 x6 v7 I J))))
def p_Co_stepOn (a1 : Nat) (a2 : Nat) (p3 : Int32) (p4 : Int32) (p5 : Int64) (post : SI → SJ → Prop) (I : SI) (J : SJ) : Prop :=
  ∀ x1, x1 = (0 : Int32) → ∃ n16, p_Co_stepOn_L3 a1 a2 p3 p4 p5 post n16 x1 I J
abbrev rm_Co_stepOn : Room := { frames := 0, cells := 0, slots := 0, locals := 0 }
def p_Co_nearest_L36 (p1 : Int64) (p3 : Int32) (post : Int64 → SI → SJ → Prop) : Nat → Int64 → Int32 → Int32 → SI → SJ → Prop
  | 0, _, _, _, _, _ => False
  | n + 1, v4, v6, v7, I, J => (((36 : Int32) ≤ v7 → post (J (4) 0) I J) ∧ (¬ (36 : Int32) ≤ v7 → p_Co_nextPlace v6 (fun r10 I8 J9 => p_Co_nextPlace r10 (fun r13 I11 J12 => ∀ x14, x14 = (Int64.toInt32 ((xlu v4 v6) &&& (1 : Int64))) ||| (xsl (Int64.toInt32 ((xlu v4 r10) &&& (1 : Int64))) (1 : Int32)) → p_Co_stepOn (0) (1) x14 (3 : Int32) (xll (1 : Int64) ((35 : Int32) - v7)) (fun I15 J16 => p_Co_stepOn (1) (0) (Int64.toInt32 ((xlu v4 r13) &&& (1 : Int64))) (1 : Int32) (xll (1 : Int64) ((34 : Int32) - v7)) (fun I17 J18 => p_Co_nextPlace r13 (fun r21 I19 J20 => ∀ x22, x22 = v7 + (2 : Int32) → p_Co_nearest_L36 p1 p3 post n v4 r21 x22 I19 J20) I17 J18) I15 J16) I11 J12) I8 J9) I J))
def p_Co_nearest (p1 : Int64) (p3 : Int32) (post : Int64 → SI → SJ → Prop) (I : SI) (J : SJ) : Prop :=
  ∃ j1, p3 &&& (7 : Int32) = nI j1 ∧ j1 < 8 ∧ ∀ x2, x2 = p1 ^^^ (J (2) j1) → p_Ar_fillJ (0) (1099511627776000 : Int64) (fun I3 J4 => ∀ J5, J5 = xv J4 (4) 0 (0 : Int64) → ∀ x6, x6 = (0 : Int32) → ∀ x7, x7 = (0 : Int32) → ∃ n24, p_Co_nearest_L36 p1 p3 post n24 x2 x6 x7 I3 J5) I J
abbrev rm_Co_nearest : Room := { frames := 1, cells := 0, slots := 0, locals := 32 }
def p_Co_unlikePlaces (p0 : Int64) (post : Int32 → SI → SJ → Prop) (I : SI) (J : SJ) : Prop :=
  post (Int64.toInt32 (xlu p0 (40 : Int32))) I J
abbrev rm_Co_unlikePlaces : Room := { frames := 0, cells := 0, slots := 0, locals := 0 }
def p_Co_blockOf (p1 : Int64) (p3 : Int32) (post : Int32 → SI → SJ → Prop) (I : SI) (J : SJ) : Prop :=
  p_Co_nearest p1 p3 (fun r3 I1 J2 => ∀ x4, x4 = r3 &&& (68719476735 : Int64) → ∀ x5, x5 = Int64.toInt32 (xlu x4 (16 : Int32)) → p_Co_wordOf x5 (fun r8 I6 J7 => ((¬ (lg_cmp x4 r8) = (0) → post (-1 : Int32) I6 J7) ∧ ((lg_cmp x4 r8) = (0) → post x5 I6 J7))) I1 J2) I J
abbrev rm_Co_blockOf : Room := { frames := 2, cells := 0, slots := 0, locals := 62 }
set_option maxHeartbeats 4000000 in
set_option maxRecDepth 100000 in
theorem c_Co_colourRow (l : Launch) (D : va_G) (κ : Nat → ClassId) {Θ : Nat → Nat} (hΘ : xJ 52 Θ) (sz : Nat) (p0 : Int32) (I : SI) (J : SJ) (post : Int64 → SI → SJ → Prop) (h : p_Co_colourRow p0 post I J) : Met l y_Co_colourRow WS rm_Co_colourRow (va_Pc [.int p0] (xPR D clA (tysA κ) 52 Θ (eC Θ κ) sz I J)) (xQl D clA 52 Θ (eC Θ κ) sz post) 0 0 (xA 52 Θ sz) := by
  refine xMet (cc := b_Co_colourRow) (maxL := 6) (ret := (some .long)) (by decide) q_Co_colourRow.1 ?_
  intro p e s m args below meth c s₁ B hml hv
  obtain ⟨hargs, hsz, hP, hK, hN, hG⟩ := hv
  have hx := B.exec
  have hb := B.bytes
  have hr := B.returns
  have hlocks := B.notSynchronized
  have hts := atoms_spec (ws := WS) B.pre
  have hown : s.vm.findClass R_Co = some m.cls := findClass_of_methodNamed B.named
  have C : xC p m c b_Co_colourRow 6 s args R_Co D clA (tysA κ) 52 Θ sz := ⟨⟨hx, hb, hml, hown, hts⟩, hK, hN, hG, hsz⟩
  have hS : va_S (xA 52 Θ sz) s.heap s.heap [] := va_S.rf
  have tL12 : ∀ (n : Nat) (v1 : Int32) (v2 : Int64) (v4 : Int32) (I : SI) (J : SJ), p_Co_colourRow_L12 p0 post n v1 v2 v4 I J → ∀ (H : Heap) (locs : List Loc) (ls : Array Slot), lv_has ls 6 [(1, .int v1), (2, .long v2), (4, .int v4)] → va_P D clA (xw 52 Θ (eC Θ κ) I J) H → va_S (xA 52 Θ sz) s.heap H locs → W p l e (headSpec WS rm_Co_colourRow).room s m args below meth c H locs 0 0 (MQ below (xQl D clA 52 Θ (eC Θ κ) sz post) args s 0 0 (xA 52 Θ sz)) (F0 m 12 ls []) := by
    intro n
    induction n with
    | zero =>
      intro v1 v2 v4 I J h H locs ls hl hP hS
      exact h.elim
    | succ n ih =>
      intro v1 v2 v4 I J h H locs ls hl hP hS
      unfold p_Co_colourRow_L12 at h
      refine lv_iload hx hb d_Co_colourRow_12 (lv_at hl 2 rfl) ?_
      refine lv_bipush (v := (54 : Int32)) hx hb d_Co_colourRow_14 (by decide) ?_
      refine lv_icmp_ge hx hb d_Co_colourRow_16 (tgt := 54) rfl (fun hc8 => ?_) (fun hc8 => ?_)
      · have h := h.1 hc8
        refine lv_lload_n hx hb d_Co_colourRow_54 rfl (lv_at hl 1 rfl) ?_
        exact x_lret hx hb hr hlocks hP hS h d_Co_colourRow_55
      · have h := h.2 hc8
        refine lv_lload_n hx hb d_Co_colourRow_19 rfl (lv_at hl 1 rfl) ?_
        refine lv_iload_n hx hb d_Co_colourRow_20 rfl (lv_at hl 0 rfl) ?_
        refine lv_iconst (v := (1 : Int32)) hx hb d_Co_colourRow_21 (by decide) ?_
        refine lv_iand hx hb d_Co_colourRow_22 ?_
        refine lv_i2l (v := Int32.toInt64 (v1 &&& (1 : Int32))) hx hb d_Co_colourRow_23 rfl ?_
        refine lv_iload hx hb d_Co_colourRow_24 (lv_at hl 2 rfl) ?_
        refine lv_lshl (v := xll (Int32.toInt64 (v1 &&& (1 : Int32))) v4) hx hb d_Co_colourRow_26 rfl ?_
        refine lv_lor hx hb d_Co_colourRow_27 ?_
        refine lv_topl (fun x4 ex4 => ?_)
        have h := h x4 ex4
        refine lv_lstore_n hx hb d_Co_colourRow_28 rfl hl (Nat.le_of_ble_eq_true rfl) (lv' := [(2, .long x4), (1, .int v1), (4, .int v4)]) rfl (fun ls hl => ?_)
        refine lv_iload_n hx hb d_Co_colourRow_29 rfl (lv_at hl 1 rfl) ?_
        refine lv_iload_n hx hb d_Co_colourRow_30 rfl (lv_at hl 1 rfl) ?_
        refine lv_iconst (v := (3 : Int32)) hx hb d_Co_colourRow_31 (by decide) ?_
        refine lv_iushr (v := xsu v1 (3 : Int32)) hx hb d_Co_colourRow_32 rfl ?_
        refine lv_ixor hx hb d_Co_colourRow_33 ?_
        refine lv_iconst (v := (1 : Int32)) hx hb d_Co_colourRow_34 (by decide) ?_
        refine lv_iand hx hb d_Co_colourRow_35 ?_
        refine lv_topi (fun x5 ex5 => ?_)
        have h := h x5 ex5
        refine lv_istore hx hb d_Co_colourRow_36 hl (Nat.le_of_ble_eq_true rfl) (lv' := [(5, .int x5), (2, .long x4), (1, .int v1), (4, .int v4)]) rfl (fun ls hl => ?_)
        refine lv_iload_n hx hb d_Co_colourRow_38 rfl (lv_at hl 2 rfl) ?_
        refine lv_iconst (v := (1 : Int32)) hx hb d_Co_colourRow_39 (by decide) ?_
        refine lv_iushr (v := xsu v1 (1 : Int32)) hx hb d_Co_colourRow_40 rfl ?_
        refine lv_iload hx hb d_Co_colourRow_41 (lv_at hl 0 rfl) ?_
        refine lv_bipush (v := (6 : Int32)) hx hb d_Co_colourRow_43 (by decide) ?_
        refine lv_ishl hx hb d_Co_colourRow_45 ?_
        refine lv_ior hx hb d_Co_colourRow_46 ?_
        refine lv_topi (fun x6 ex6 => ?_)
        have h := h x6 ex6
        refine lv_istore_n hx hb d_Co_colourRow_47 rfl hl (Nat.le_of_ble_eq_true rfl) (lv' := [(1, .int x6), (5, .int x5), (2, .long x4), (4, .int v4)]) rfl (fun ls hl => ?_)
        obtain ⟨x7, ex7⟩ : ∃ y : Int32, y = v4 + (1 : Int32) := ⟨_, rfl⟩
        have h := h x7 ex7
        refine lv_iinc (k := 3) (v := x7) hx hb d_Co_colourRow_48 hl rfl (by rw [ex7]; rfl) (Nat.le_of_ble_eq_true rfl) (lv' := [(4, .int x7), (1, .int x6), (5, .int x5), (2, .long x4)]) rfl (fun ls hl => ?_)
        refine lv_goto hx hb d_Co_colourRow_51 (tgt := 12) rfl ?_
        exact ih _ _ _ _ _ h _ _ _ (lv_sub hl [1, 3, 0] rfl) hP hS
  have hE := lg_entry_eq m [.int p0] 6
  rw [← hargs] at hE
  rw [hE]
  have hl := lv_entry [.int p0] (n := 6) (Nat.le_of_ble_eq_true rfl)
  generalize (lg_sl [.int p0] ++ List.replicate (6 - (lg_sl [.int p0]).length) Slot.unset).toArray = ls at hl ⊢
  have hl : lv_has ls 6 [(0, .int p0)] := hl
  unfold p_Co_colourRow at h
  refine lv_bipush (v := (9 : Int32)) hx hb d_Co_colourRow_0 (by decide) ?_
  refine lv_iload_n hx hb d_Co_colourRow_2 rfl (lv_at hl 0 rfl) ?_
  refine lv_imul hx hb d_Co_colourRow_3 ?_
  refine lv_iconst (v := (1 : Int32)) hx hb d_Co_colourRow_4 (by decide) ?_
  refine lv_iadd hx hb d_Co_colourRow_5 ?_
  refine lv_topi (fun x1 ex1 => ?_)
  have h := h x1 ex1
  refine lv_istore_n hx hb d_Co_colourRow_6 rfl hl (Nat.le_of_ble_eq_true rfl) (lv' := [(1, .int x1), (0, .int p0)]) rfl (fun ls hl => ?_)
  refine lv_lconst (v := (0 : Int64)) hx hb d_Co_colourRow_7 (by decide) ?_
  refine lv_topl (fun x2 ex2 => ?_)
  have h := h x2 ex2
  refine lv_lstore_n hx hb d_Co_colourRow_8 rfl hl (Nat.le_of_ble_eq_true rfl) (lv' := [(2, .long x2), (1, .int x1), (0, .int p0)]) rfl (fun ls hl => ?_)
  refine lv_iconst (v := (0 : Int32)) hx hb d_Co_colourRow_9 (by decide) ?_
  refine lv_topi (fun x3 ex3 => ?_)
  have h := h x3 ex3
  refine lv_istore hx hb d_Co_colourRow_10 hl (Nat.le_of_ble_eq_true rfl) (lv' := [(4, .int x3), (2, .long x2), (1, .int x1), (0, .int p0)]) rfl (fun ls hl => ?_)
  obtain ⟨n9, h⟩ := h
  refine tL12 n9 _ _ _ _ _ h _ _ _ (lv_sub hl [2, 1, 0] rfl) hP hS
set_option maxHeartbeats 4000000 in
set_option maxRecDepth 100000 in
theorem c_Co_checkOf (l : Launch) (D : va_G) (κ : Nat → ClassId) {Θ : Nat → Nat} (hΘ : xJ 52 Θ) (sz : Nat) (p0 : Int32) (I : SI) (J : SJ) (post : Int32 → SI → SJ → Prop) (h : p_Co_checkOf p0 post I J) : Met l y_Co_checkOf WS rm_Co_checkOf (va_Pc [.int p0] (xPR D clA (tysA κ) 52 Θ (eC Θ κ) sz I J)) (xQi D clA 52 Θ (eC Θ κ) sz post) 0 0 (xA 52 Θ sz) := by
  refine xMet (cc := b_Co_checkOf) (maxL := 4) (ret := (some .int)) (by decide) q_Co_checkOf.1 ?_
  intro p e s m args below meth c s₁ B hml hv
  obtain ⟨hargs, hsz, hP, hK, hN, hG⟩ := hv
  have hx := B.exec
  have hb := B.bytes
  have hr := B.returns
  have hlocks := B.notSynchronized
  have hts := atoms_spec (ws := WS) B.pre
  have hown : s.vm.findClass R_Co = some m.cls := findClass_of_methodNamed B.named
  have C : xC p m c b_Co_checkOf 4 s args R_Co D clA (tysA κ) 52 Θ sz := ⟨⟨hx, hb, hml, hown, hts⟩, hK, hN, hG, hsz⟩
  have hS : va_S (xA 52 Θ sz) s.heap s.heap [] := va_S.rf
  have tL7 : ∀ (n : Nat) (v1 : Int32) (v2 : Int32) (I : SI) (J : SJ), p_Co_checkOf_L7 p0 post n v1 v2 I J → ∀ (H : Heap) (locs : List Loc) (ls : Array Slot), lv_has ls 4 [(0, .int p0), (1, .int v1), (2, .int v2)] → va_P D clA (xw 52 Θ (eC Θ κ) I J) H → va_S (xA 52 Θ sz) s.heap H locs → W p l e (headSpec WS rm_Co_checkOf).room s m args below meth c H locs 0 0 (MQ below (xQi D clA 52 Θ (eC Θ κ) sz post) args s 0 0 (xA 52 Θ sz)) (F0 m 7 ls []) := by
    intro n
    induction n with
    | zero =>
      intro v1 v2 I J h H locs ls hl hP hS
      exact h.elim
    | succ n ih =>
      intro v1 v2 I J h H locs ls hl hP hS
      unfold p_Co_checkOf_L7 at h
      refine lv_iload_n hx hb d_Co_checkOf_7 rfl (lv_at hl 2 rfl) ?_
      refine lv_if_lt hx hb d_Co_checkOf_8 (tgt := 42) rfl (fun hc6 => ?_) (fun hc6 => ?_)
      · have h := h.1 hc6
        refine lv_iload_n hx hb d_Co_checkOf_42 rfl (lv_at hl 1 rfl) ?_
        exact x_iret hx hb hr hlocks hP hS h d_Co_checkOf_43
      · have h := h.2 hc6
        refine lv_iload_n hx hb d_Co_checkOf_11 rfl (lv_at hl 1 rfl) ?_
        refine lv_bipush (v := (11 : Int32)) hx hb d_Co_checkOf_12 (by decide) ?_
        refine lv_iushr (v := xsu v1 (11 : Int32)) hx hb d_Co_checkOf_14 rfl ?_
        refine lv_iload_n hx hb d_Co_checkOf_15 rfl (lv_at hl 0 rfl) ?_
        refine lv_iload_n hx hb d_Co_checkOf_16 rfl (lv_at hl 2 rfl) ?_
        refine lv_iushr (v := xsu p0 v2) hx hb d_Co_checkOf_17 rfl ?_
        refine lv_ixor hx hb d_Co_checkOf_18 ?_
        refine lv_iconst (v := (1 : Int32)) hx hb d_Co_checkOf_19 (by decide) ?_
        refine lv_iand hx hb d_Co_checkOf_20 ?_
        refine lv_topi (fun x3 ex3 => ?_)
        have h := h x3 ex3
        refine lv_istore_n hx hb d_Co_checkOf_21 rfl hl (Nat.le_of_ble_eq_true rfl) (lv' := [(3, .int x3), (0, .int p0), (1, .int v1), (2, .int v2)]) rfl (fun ls hl => ?_)
        refine lv_iload_n hx hb d_Co_checkOf_22 rfl (lv_at hl 2 rfl) ?_
        refine lv_iconst (v := (1 : Int32)) hx hb d_Co_checkOf_23 (by decide) ?_
        refine lv_ishl hx hb d_Co_checkOf_24 ?_
        refine lv_iload_n hx hb d_Co_checkOf_25 rfl (lv_at hl 0 rfl) ?_
        refine lv_sipush (v := (2063 : Int32)) hx hb d_Co_checkOf_26 (by decide) ?_
        refine lv_imul hx hb d_Co_checkOf_29 ?_
        refine lv_ixor hx hb d_Co_checkOf_30 ?_
        refine lv_sipush (v := (4095 : Int32)) hx hb d_Co_checkOf_31 (by decide) ?_
        refine lv_iand hx hb d_Co_checkOf_34 ?_
        refine lv_topi (fun x4 ex4 => ?_)
        have h := h x4 ex4
        refine lv_istore_n hx hb d_Co_checkOf_35 rfl hl (Nat.le_of_ble_eq_true rfl) (lv' := [(1, .int x4), (3, .int x3), (0, .int p0), (2, .int v2)]) rfl (fun ls hl => ?_)
        obtain ⟨x5, ex5⟩ : ∃ y : Int32, y = v2 + (-1 : Int32) := ⟨_, rfl⟩
        have h := h x5 ex5
        refine lv_iinc (k := 3) (v := x5) hx hb d_Co_checkOf_36 hl rfl (by rw [ex5]; rfl) (Nat.le_of_ble_eq_true rfl) (lv' := [(2, .int x5), (1, .int x4), (3, .int x3), (0, .int p0)]) rfl (fun ls hl => ?_)
        refine lv_goto hx hb d_Co_checkOf_39 (tgt := 7) rfl ?_
        exact ih _ _ _ _ h _ _ _ (lv_sub hl [3, 1, 0] rfl) hP hS
  have hE := lg_entry_eq m [.int p0] 4
  rw [← hargs] at hE
  rw [hE]
  have hl := lv_entry [.int p0] (n := 4) (Nat.le_of_ble_eq_true rfl)
  generalize (lg_sl [.int p0] ++ List.replicate (4 - (lg_sl [.int p0]).length) Slot.unset).toArray = ls at hl ⊢
  have hl : lv_has ls 4 [(0, .int p0)] := hl
  unfold p_Co_checkOf at h
  refine lv_sipush (v := (4095 : Int32)) hx hb d_Co_checkOf_0 (by decide) ?_
  refine lv_topi (fun x1 ex1 => ?_)
  have h := h x1 ex1
  refine lv_istore_n hx hb d_Co_checkOf_3 rfl hl (Nat.le_of_ble_eq_true rfl) (lv' := [(1, .int x1), (0, .int p0)]) rfl (fun ls hl => ?_)
  refine lv_bipush (v := (19 : Int32)) hx hb d_Co_checkOf_4 (by decide) ?_
  refine lv_topi (fun x2 ex2 => ?_)
  have h := h x2 ex2
  refine lv_istore_n hx hb d_Co_checkOf_6 rfl hl (Nat.le_of_ble_eq_true rfl) (lv' := [(2, .int x2), (1, .int x1), (0, .int p0)]) rfl (fun ls hl => ?_)
  obtain ⟨n7, h⟩ := h
  refine tL7 n7 _ _ _ _ h _ _ _ (lv_sub hl [2, 1, 0] rfl) hP hS
set_option maxHeartbeats 4000000 in
set_option maxRecDepth 100000 in
theorem c_Co_wordOf (l : Launch) (D : va_G) (κ : Nat → ClassId) {Θ : Nat → Nat} (hΘ : xJ 52 Θ) (sz : Nat) (p0 : Int32) (I : SI) (J : SJ) (post : Int64 → SI → SJ → Prop) (h : p_Co_wordOf p0 post I J) : Met l y_Co_wordOf WS rm_Co_wordOf (va_Pc [.int p0] (xPR D clA (tysA κ) 52 Θ (eC Θ κ) sz I J)) (xQl D clA 52 Θ (eC Θ κ) sz post) 0 0 (xA 52 Θ sz) := by
  refine xMet (cc := b_Co_wordOf) (maxL := 1) (ret := (some .long)) (by decide) q_Co_wordOf.1 ?_
  intro p e s m args below meth c s₁ B hml hv
  obtain ⟨hargs, hsz, hP, hK, hN, hG⟩ := hv
  have hx := B.exec
  have hb := B.bytes
  have hr := B.returns
  have hlocks := B.notSynchronized
  have hts := atoms_spec (ws := WS) B.pre
  have hown : s.vm.findClass R_Co = some m.cls := findClass_of_methodNamed B.named
  have C : xC p m c b_Co_wordOf 1 s args R_Co D clA (tysA κ) 52 Θ sz := ⟨⟨hx, hb, hml, hown, hts⟩, hK, hN, hG, hsz⟩
  have hS : va_S (xA 52 Θ sz) s.heap s.heap [] := va_S.rf
  have hE := lg_entry_eq m [.int p0] 1
  rw [← hargs] at hE
  rw [hE]
  have hl := lv_entry [.int p0] (n := 1) (Nat.le_of_ble_eq_true rfl)
  generalize (lg_sl [.int p0] ++ List.replicate (1 - (lg_sl [.int p0]).length) Slot.unset).toArray = ls at hl ⊢
  have hl : lv_has ls 1 [(0, .int p0)] := hl
  unfold p_Co_wordOf at h
  refine lv_iload_n hx hb d_Co_wordOf_0 rfl (lv_at hl 0 rfl) ?_
  refine lv_i2l (v := Int32.toInt64 p0) hx hb d_Co_wordOf_1 rfl ?_
  refine lv_bipush (v := (16 : Int32)) hx hb d_Co_wordOf_2 (by decide) ?_
  refine lv_lshl (v := xll (Int32.toInt64 p0) (16 : Int32)) hx hb d_Co_wordOf_4 rfl ?_
  refine lv_iload_n hx hb d_Co_wordOf_5 rfl (lv_at hl 0 rfl) ?_
  refine x_gi (x_S C hP hS (c_Co_checkOf l D κ hΘ sz p0 I J _ h) q_Co_checkOf k_291 k_290 rfl rfl ⟨Nat.le_of_ble_eq_true rfl, Nat.le_of_ble_eq_true rfl⟩ rfl hl.1 rfl (Nat.le_of_ble_eq_true rfl) d_Co_wordOf_6) hS (fun r3 I1 J2 h H locs hP hS => ?_)
  refine lv_i2l (v := Int32.toInt64 r3) hx hb d_Co_wordOf_9 rfl ?_
  refine lv_iconst (v := (4 : Int32)) hx hb d_Co_wordOf_10 (by decide) ?_
  refine lv_lshl (v := xll (Int32.toInt64 r3) (4 : Int32)) hx hb d_Co_wordOf_11 rfl ?_
  refine lv_lor hx hb d_Co_wordOf_12 ?_
  exact x_lret hx hb hr hlocks hP hS h d_Co_wordOf_13
set_option maxHeartbeats 4000000 in
set_option maxRecDepth 100000 in
theorem c_Co_nextPlace (l : Launch) (D : va_G) (κ : Nat → ClassId) {Θ : Nat → Nat} (hΘ : xJ 52 Θ) (sz : Nat) (p0 : Int32) (I : SI) (J : SJ) (post : Int32 → SI → SJ → Prop) (h : p_Co_nextPlace p0 post I J) : Met l y_Co_nextPlace WS rm_Co_nextPlace (va_Pc [.int p0] (xPR D clA (tysA κ) 52 Θ (eC Θ κ) sz I J)) (xQi D clA 52 Θ (eC Θ κ) sz post) 0 0 (xA 52 Θ sz) := by
  refine xMet (cc := b_Co_nextPlace) (maxL := 1) (ret := (some .int)) (by decide) q_Co_nextPlace.1 ?_
  intro p e s m args below meth c s₁ B hml hv
  obtain ⟨hargs, hsz, hP, hK, hN, hG⟩ := hv
  have hx := B.exec
  have hb := B.bytes
  have hr := B.returns
  have hlocks := B.notSynchronized
  have hts := atoms_spec (ws := WS) B.pre
  have hown : s.vm.findClass R_Co = some m.cls := findClass_of_methodNamed B.named
  have C : xC p m c b_Co_nextPlace 1 s args R_Co D clA (tysA κ) 52 Θ sz := ⟨⟨hx, hb, hml, hown, hts⟩, hK, hN, hG, hsz⟩
  have hS : va_S (xA 52 Θ sz) s.heap s.heap [] := va_S.rf
  have hE := lg_entry_eq m [.int p0] 1
  rw [← hargs] at hE
  rw [hE]
  have hl := lv_entry [.int p0] (n := 1) (Nat.le_of_ble_eq_true rfl)
  generalize (lg_sl [.int p0] ++ List.replicate (1 - (lg_sl [.int p0]).length) Slot.unset).toArray = ls at hl ⊢
  have hl : lv_has ls 1 [(0, .int p0)] := hl
  unfold p_Co_nextPlace at h
  refine lv_iload_n hx hb d_Co_nextPlace_0 rfl (lv_at hl 0 rfl) ?_
  refine lv_bipush (v := (17 : Int32)) hx hb d_Co_nextPlace_1 (by decide) ?_
  refine lv_iadd hx hb d_Co_nextPlace_3 ?_
  refine lv_bipush (v := (54 : Int32)) hx hb d_Co_nextPlace_4 (by decide) ?_
  refine lv_irem hx hb d_Co_nextPlace_6 (by decide) ?_
  exact x_iret hx hb hr hlocks hP hS h d_Co_nextPlace_7
set_option maxHeartbeats 4000000 in
set_option maxRecDepth 100000 in
theorem c_Co_hasSecondSum (l : Launch) (D : va_G) (κ : Nat → ClassId) {Θ : Nat → Nat} (hΘ : xJ 52 Θ) (sz : Nat) (p0 : Int32) (I : SI) (J : SJ) (post : Int32 → SI → SJ → Prop) (h : p_Co_hasSecondSum p0 post I J) : Met l y_Co_hasSecondSum WS rm_Co_hasSecondSum (va_Pc [.int p0] (xPR D clA (tysA κ) 52 Θ (eC Θ κ) sz I J)) (xQi D clA 52 Θ (eC Θ κ) sz post) 0 0 (xA 52 Θ sz) := by
  refine xMet (cc := b_Co_hasSecondSum) (maxL := 1) (ret := (some .boolean)) (by decide) q_Co_hasSecondSum.1 ?_
  intro p e s m args below meth c s₁ B hml hv
  obtain ⟨hargs, hsz, hP, hK, hN, hG⟩ := hv
  have hx := B.exec
  have hb := B.bytes
  have hr := B.returns
  have hlocks := B.notSynchronized
  have hts := atoms_spec (ws := WS) B.pre
  have hown : s.vm.findClass R_Co = some m.cls := findClass_of_methodNamed B.named
  have C : xC p m c b_Co_hasSecondSum 1 s args R_Co D clA (tysA κ) 52 Θ sz := ⟨⟨hx, hb, hml, hown, hts⟩, hK, hN, hG, hsz⟩
  have hS : va_S (xA 52 Θ sz) s.heap s.heap [] := va_S.rf
  have hE := lg_entry_eq m [.int p0] 1
  rw [← hargs] at hE
  rw [hE]
  have hl := lv_entry [.int p0] (n := 1) (Nat.le_of_ble_eq_true rfl)
  generalize (lg_sl [.int p0] ++ List.replicate (1 - (lg_sl [.int p0]).length) Slot.unset).toArray = ls at hl ⊢
  have hl : lv_has ls 1 [(0, .int p0)] := hl
  unfold p_Co_hasSecondSum at h
  refine lv_iload_n hx hb d_Co_hasSecondSum_0 rfl (lv_at hl 0 rfl) ?_
  refine lv_iconst (v := (1 : Int32)) hx hb d_Co_hasSecondSum_1 (by decide) ?_
  refine lv_iand hx hb d_Co_hasSecondSum_2 ?_
  refine lv_if_ne hx hb d_Co_hasSecondSum_3 (tgt := 10) rfl (fun hc1 => ?_) (fun hc1 => ?_)
  · have h := h.1 hc1
    refine lv_iconst (v := (0 : Int32)) hx hb d_Co_hasSecondSum_10 (by decide) ?_
    exact x_zret hx hb hr hlocks hP hS (by decide) h d_Co_hasSecondSum_11
  · have h := h.2 hc1
    refine lv_iconst (v := (1 : Int32)) hx hb d_Co_hasSecondSum_6 (by decide) ?_
    refine lv_goto hx hb d_Co_hasSecondSum_7 (tgt := 11) rfl ?_
    exact x_zret hx hb hr hlocks hP hS (by decide) h d_Co_hasSecondSum_11
set_option maxHeartbeats 4000000 in
set_option maxRecDepth 100000 in
theorem c_Co_burstOf (l : Launch) (D : va_G) (κ : Nat → ClassId) {Θ : Nat → Nat} (hΘ : xJ 52 Θ) (sz : Nat) (p1 : Int32) (p2 : Int32) (I : SI) (J : SJ) (post : Int64 → SI → SJ → Prop) (h : p_Co_burstOf p1 p2 post I J) : Met l y_Co_burstOf WS rm_Co_burstOf (va_Pc [.ref (Θ (1)), .int p1, .int p2] (xPR D clA (tysA κ) 52 Θ (eC Θ κ) sz I J)) (xQl D clA 52 Θ (eC Θ κ) sz post) 0 0 (xA 52 Θ sz) := by
  refine xMet (cc := b_Co_burstOf) (maxL := 10) (ret := (some .long)) (by decide) q_Co_burstOf.1 ?_
  intro p e s m args below meth c s₁ B hml hv
  obtain ⟨hargs, hsz, hP, hK, hN, hG⟩ := hv
  have hx := B.exec
  have hb := B.bytes
  have hr := B.returns
  have hlocks := B.notSynchronized
  have hts := atoms_spec (ws := WS) B.pre
  have hown : s.vm.findClass R_Co = some m.cls := findClass_of_methodNamed B.named
  have C : xC p m c b_Co_burstOf 10 s args R_Co D clA (tysA κ) 52 Θ sz := ⟨⟨hx, hb, hml, hown, hts⟩, hK, hN, hG, hsz⟩
  have hS : va_S (xA 52 Θ sz) s.heap s.heap [] := va_S.rf
  have tJ98 : ∀ (k25 : Int64 → Int64 → Int32 → Int32 → SI → SJ → Prop), (∀ (v3 : Int64) (v5 : Int64) (v7 : Int32) (v8 : Int32) (I : SI) (J : SJ), k25 v3 v5 v7 v8 I J → ∀ (H : Heap) (locs : List Loc) (ls : Array Slot), lv_has ls 10 [(0, .ref (Θ (1))), (3, .long v3), (5, .long v5), (7, .int v7), (8, .int v8)] → va_P D clA (xw 52 Θ (eC Θ κ) I J) H → va_S (xA 52 Θ sz) s.heap H locs → W p l e (headSpec WS rm_Co_burstOf).room s m args below meth c H locs 0 0 (MQ below (xQl D clA 52 Θ (eC Θ κ) sz post) args s 0 0 (xA 52 Θ sz)) (F0 m 25 ls [])) → ∀ (v3 : Int64) (v5 : Int64) (v7 : Int32) (v8 : Int32) (I : SI) (J : SJ), p_Co_burstOf_98 p1 p2 post k25 v3 v5 v7 v8 I J → ∀ (H : Heap) (locs : List Loc) (ls : Array Slot), lv_has ls 10 [(0, .ref (Θ (1))), (3, .long v3), (5, .long v5), (7, .int v7), (8, .int v8)] → va_P D clA (xw 52 Θ (eC Θ κ) I J) H → va_S (xA 52 Θ sz) s.heap H locs → W p l e (headSpec WS rm_Co_burstOf).room s m args below meth c H locs 0 0 (MQ below (xQl D clA 52 Θ (eC Θ κ) sz post) args s 0 0 (xA 52 Θ sz)) (F0 m 98 ls []) := by
    intro k25 hk25 v3 v5 v7 v8 I J h H locs ls hl hP hS
    unfold p_Co_burstOf_98 at h
    obtain ⟨x17, ex17⟩ : ∃ y : Int32, y = v8 + (1 : Int32) := ⟨_, rfl⟩
    have h := h x17 ex17
    refine lv_iinc (k := 4) (v := x17) hx hb d_Co_burstOf_98 hl rfl (by rw [ex17]; rfl) (Nat.le_of_ble_eq_true rfl) (lv' := [(8, .int x17), (0, .ref (Θ (1))), (3, .long v3), (5, .long v5), (7, .int v7)]) rfl (fun ls hl => ?_)
    refine lv_goto hx hb d_Co_burstOf_101 (tgt := 25) rfl ?_
    exact hk25 _ _ _ _ _ _ h _ _ _ (lv_sub hl [1, 2, 3, 4, 0] rfl) hP hS
  have tL25 : ∀ (n : Nat) (v3 : Int64) (v5 : Int64) (v7 : Int32) (v8 : Int32) (I : SI) (J : SJ), p_Co_burstOf_L25 p1 p2 post n v3 v5 v7 v8 I J → ∀ (H : Heap) (locs : List Loc) (ls : Array Slot), lv_has ls 10 [(0, .ref (Θ (1))), (3, .long v3), (5, .long v5), (7, .int v7), (8, .int v8)] → va_P D clA (xw 52 Θ (eC Θ κ) I J) H → va_S (xA 52 Θ sz) s.heap H locs → W p l e (headSpec WS rm_Co_burstOf).room s m args below meth c H locs 0 0 (MQ below (xQl D clA 52 Θ (eC Θ κ) sz post) args s 0 0 (xA 52 Θ sz)) (F0 m 25 ls []) := by
    intro n
    induction n with
    | zero =>
      intro v3 v5 v7 v8 I J h H locs ls hl hP hS
      exact h.elim
    | succ n ih =>
      intro v3 v5 v7 v8 I J h H locs ls hl hP hS
      unfold p_Co_burstOf_L25 at h
      refine lv_iload hx hb d_Co_burstOf_25 (lv_at hl 4 rfl) ?_
      refine lv_bipush (v := (36 : Int32)) hx hb d_Co_burstOf_27 (by decide) ?_
      refine lv_icmp_ge hx hb d_Co_burstOf_29 (tgt := 104) rfl (fun hc23 => ?_) (fun hc23 => ?_)
      · have h := h.1 hc23
        refine lv_lload hx hb d_Co_burstOf_104 (lv_at hl 2 rfl) ?_
        exact x_lret hx hb hr hlocks hP hS h d_Co_burstOf_106
      · have h := h.2 hc23
        refine lv_aload_n hx hb d_Co_burstOf_32 rfl (lv_at hl 0 rfl) ?_
        refine gfC_Co_19 C hP d_Co_burstOf_33 ?_
        refine lv_lload_n hx hb d_Co_burstOf_36 rfl (lv_at hl 1 rfl) ?_
        refine lv_bipush (v := (35 : Int32)) hx hb d_Co_burstOf_37 (by decide) ?_
        refine lv_iload hx hb d_Co_burstOf_39 (lv_at hl 4 rfl) ?_
        refine lv_isub hx hb d_Co_burstOf_41 ?_
        refine lv_lushr (v := xlu v3 ((35 : Int32) - v8)) hx hb d_Co_burstOf_42 rfl ?_
        refine lv_l2i (v := Int64.toInt32 (xlu v3 ((35 : Int32) - v8))) hx hb d_Co_burstOf_43 rfl ?_
        refine lv_bipush (v := (31 : Int32)) hx hb d_Co_burstOf_44 (by decide) ?_
        refine lv_iand hx hb d_Co_burstOf_46 ?_
        obtain ⟨j8, ej8, h_j8, h⟩ := h
        refine x_iald hx hb hK hP (3) 0 (Nat.le_of_ble_eq_true rfl) eC_sums rfl ej8 h_j8 (by decide) d_Co_burstOf_47 ?_
        refine lv_topi (fun x9 ex9 => ?_)
        have h := h x9 ex9
        refine lv_istore hx hb d_Co_burstOf_48 hl (Nat.le_of_ble_eq_true rfl) (lv' := [(9, .int x9), (0, .ref (Θ (1))), (3, .long v3), (5, .long v5), (7, .int v7), (8, .int v8)]) rfl (fun ls hl => ?_)
        refine lv_lload hx hb d_Co_burstOf_50 (lv_at hl 3 rfl) ?_
        refine lv_iload hx hb d_Co_burstOf_52 (lv_at hl 0 rfl) ?_
        refine lv_iconst (v := (1 : Int32)) hx hb d_Co_burstOf_54 (by decide) ?_
        refine lv_iand hx hb d_Co_burstOf_55 ?_
        refine lv_i2l (v := Int32.toInt64 (x9 &&& (1 : Int32))) hx hb d_Co_burstOf_56 rfl ?_
        refine lv_iload hx hb d_Co_burstOf_57 (lv_at hl 4 rfl) ?_
        refine lv_lshl (v := xll (Int32.toInt64 (x9 &&& (1 : Int32))) v7) hx hb d_Co_burstOf_59 rfl ?_
        refine lv_lxor hx hb d_Co_burstOf_60 ?_
        refine lv_topl (fun x10 ex10 => ?_)
        have h := h x10 ex10
        refine lv_lstore hx hb d_Co_burstOf_61 hl (Nat.le_of_ble_eq_true rfl) (lv' := [(5, .long x10), (9, .int x9), (0, .ref (Θ (1))), (3, .long v3), (7, .int v7), (8, .int v8)]) rfl (fun ls hl => ?_)
        refine lv_iload hx hb d_Co_burstOf_63 (lv_at hl 4 rfl) ?_
        refine x_gi (x_S C hP hS (c_Co_nextPlace l D κ hΘ sz v7 I J _ h) q_Co_nextPlace k_294 k_293 rfl rfl ⟨Nat.le_of_ble_eq_true rfl, Nat.le_of_ble_eq_true rfl⟩ rfl hl.1 rfl (Nat.le_of_ble_eq_true rfl) d_Co_burstOf_65) hS (fun r13 I11 J12 h H locs hP hS => ?_)
        refine lv_istore hx hb d_Co_burstOf_68 hl (Nat.le_of_ble_eq_true rfl) (lv' := [(7, .int r13), (5, .long x10), (9, .int x9), (0, .ref (Θ (1))), (3, .long v3), (8, .int v8)]) rfl (fun ls hl => ?_)
        refine lv_iload hx hb d_Co_burstOf_70 (lv_at hl 5 rfl) ?_
        refine x_gi (x_S C hP hS (c_Co_hasSecondSum l D κ hΘ sz v8 I11 J12 _ h) q_Co_hasSecondSum k_297 k_296 rfl rfl ⟨Nat.le_of_ble_eq_true rfl, Nat.le_of_ble_eq_true rfl⟩ rfl hl.1 rfl (Nat.le_of_ble_eq_true rfl) d_Co_burstOf_72) hS (fun r16 I14 J15 h H locs hP hS => ?_)
        refine lv_if_eq hx hb d_Co_burstOf_75 (tgt := 98) rfl (fun hc22 => ?_) (fun hc22 => ?_)
        · have h := h.1 hc22
          exact tJ98 _ ih _ _ _ _ _ _ h _ _ _ (lv_sub hl [3, 4, 1, 0, 5] rfl) hP hS
        · have h := h.2 hc22
          refine lv_lload hx hb d_Co_burstOf_78 (lv_at hl 1 rfl) ?_
          refine lv_iload hx hb d_Co_burstOf_80 (lv_at hl 2 rfl) ?_
          refine lv_iconst (v := (1 : Int32)) hx hb d_Co_burstOf_82 (by decide) ?_
          refine lv_iushr (v := xsu x9 (1 : Int32)) hx hb d_Co_burstOf_83 rfl ?_
          refine lv_i2l (v := Int32.toInt64 (xsu x9 (1 : Int32))) hx hb d_Co_burstOf_84 rfl ?_
          refine lv_iload hx hb d_Co_burstOf_85 (lv_at hl 0 rfl) ?_
          refine lv_lshl (v := xll (Int32.toInt64 (xsu x9 (1 : Int32))) r13) hx hb d_Co_burstOf_87 rfl ?_
          refine lv_lxor hx hb d_Co_burstOf_88 ?_
          refine lv_topl (fun x18 ex18 => ?_)
          have h := h x18 ex18
          refine lv_lstore hx hb d_Co_burstOf_89 hl (Nat.le_of_ble_eq_true rfl) (lv' := [(5, .long x18), (7, .int r13), (9, .int x9), (0, .ref (Θ (1))), (3, .long v3), (8, .int v8)]) rfl (fun ls hl => ?_)
          refine lv_iload hx hb d_Co_burstOf_91 (lv_at hl 1 rfl) ?_
          refine x_gi (x_S C hP hS (c_Co_nextPlace l D κ hΘ sz r13 I14 J15 _ h) q_Co_nextPlace k_294 k_293 rfl rfl ⟨Nat.le_of_ble_eq_true rfl, Nat.le_of_ble_eq_true rfl⟩ rfl hl.1 rfl (Nat.le_of_ble_eq_true rfl) d_Co_burstOf_93) hS (fun r21 I19 J20 h H locs hP hS => ?_)
          refine lv_istore hx hb d_Co_burstOf_96 hl (Nat.le_of_ble_eq_true rfl) (lv' := [(7, .int r21), (5, .long x18), (9, .int x9), (0, .ref (Θ (1))), (3, .long v3), (8, .int v8)]) rfl (fun ls hl => ?_)
          exact tJ98 _ ih _ _ _ _ _ _ h _ _ _ (lv_sub hl [3, 4, 1, 0, 5] rfl) hP hS
  have hE := lg_entry_eq m [.ref (Θ (1)), .int p1, .int p2] 10
  rw [← hargs] at hE
  rw [hE]
  have hl := lv_entry [.ref (Θ (1)), .int p1, .int p2] (n := 10) (Nat.le_of_ble_eq_true rfl)
  generalize (lg_sl [.ref (Θ (1)), .int p1, .int p2] ++ List.replicate (10 - (lg_sl [.ref (Θ (1)), .int p1, .int p2]).length) Slot.unset).toArray = ls at hl ⊢
  have hl : lv_has ls 10 [(0, .ref (Θ (1))), (1, .int p1), (2, .int p2)] := hl
  unfold p_Co_burstOf at h
  refine lv_iload_n hx hb d_Co_burstOf_0 rfl (lv_at hl 1 rfl) ?_
  refine lv_ldc (v := (1048575 : Int32)) hx hb hown (hts _ k_286) d_Co_burstOf_1 ?_
  refine lv_iand hx hb d_Co_burstOf_3 ?_
  refine x_gl (x_S C hP hS (c_Co_wordOf l D κ hΘ sz (p1 &&& (1048575 : Int32)) I J _ h) q_Co_wordOf k_288 k_287 rfl rfl ⟨Nat.le_of_ble_eq_true rfl, Nat.le_of_ble_eq_true rfl⟩ rfl hl.1 rfl (Nat.le_of_ble_eq_true rfl) d_Co_burstOf_4) hS (fun r3 I1 J2 h H locs hP hS => ?_)
  refine lv_lstore_n hx hb d_Co_burstOf_7 rfl hl (Nat.le_of_ble_eq_true rfl) (lv' := [(3, .long r3), (0, .ref (Θ (1))), (1, .int p1), (2, .int p2)]) rfl (fun ls hl => ?_)
  refine lv_aload_n hx hb d_Co_burstOf_8 rfl (lv_at hl 1 rfl) ?_
  refine gfC_Co_11 C hP d_Co_burstOf_9 ?_
  refine lv_iload_n hx hb d_Co_burstOf_12 rfl (lv_at hl 3 rfl) ?_
  refine lv_bipush (v := (7 : Int32)) hx hb d_Co_burstOf_13 (by decide) ?_
  refine lv_iand hx hb d_Co_burstOf_15 ?_
  obtain ⟨j4, ej4, h_j4, h⟩ := h
  refine x_lald hx hb hK hP (2) 1 (Nat.le_of_ble_eq_true rfl) eC_colourRows rfl ej4 h_j4 (by decide) d_Co_burstOf_16 ?_
  refine lv_topl (fun x5 ex5 => ?_)
  have h := h x5 ex5
  refine lv_lstore hx hb d_Co_burstOf_17 hl (Nat.le_of_ble_eq_true rfl) (lv' := [(5, .long x5), (3, .long r3), (0, .ref (Θ (1))), (1, .int p1), (2, .int p2)]) rfl (fun ls hl => ?_)
  refine lv_iconst (v := (0 : Int32)) hx hb d_Co_burstOf_19 (by decide) ?_
  refine lv_topi (fun x6 ex6 => ?_)
  have h := h x6 ex6
  refine lv_istore hx hb d_Co_burstOf_20 hl (Nat.le_of_ble_eq_true rfl) (lv' := [(7, .int x6), (5, .long x5), (3, .long r3), (0, .ref (Θ (1))), (1, .int p1), (2, .int p2)]) rfl (fun ls hl => ?_)
  refine lv_iconst (v := (0 : Int32)) hx hb d_Co_burstOf_22 (by decide) ?_
  refine lv_topi (fun x7 ex7 => ?_)
  have h := h x7 ex7
  refine lv_istore hx hb d_Co_burstOf_23 hl (Nat.le_of_ble_eq_true rfl) (lv' := [(8, .int x7), (7, .int x6), (5, .long x5), (3, .long r3), (0, .ref (Θ (1))), (1, .int p1), (2, .int p2)]) rfl (fun ls hl => ?_)
  obtain ⟨n24, h⟩ := h
  refine tL25 n24 _ _ _ _ _ _ h _ _ _ (lv_sub hl [4, 3, 2, 1, 0] rfl) hP hS
set_option maxHeartbeats 4000000 in
set_option maxRecDepth 100000 in
theorem c_Ar_fillJ (l : Launch) (D : va_G) (κ : Nat → ClassId) {Θ : Nat → Nat} (hΘ : xJ 52 Θ) (sz : Nat) (a0 : Nat) (h_a0 : a0 < 2) (p1 : Int64) (I : SI) (J : SJ) (post : SI → SJ → Prop) (h : p_Ar_fillJ a0 p1 post I J) : Met l y_Ar_fillJ WS rm_Ar_fillJ (va_Pc [.ref (Θ (4 + a0)), .long p1] (xPR D clA (tysA κ) 52 Θ (eC Θ κ) sz I J)) (xQv D clA 52 Θ (eC Θ κ) sz post) 0 0 (xA 52 Θ sz) := by
  refine xMet (cc := b_Ar_fillJ) (maxL := 5) (ret := none) (by decide) q_Ar_fillJ.1 ?_
  intro p e s m args below meth c s₁ B hml hv
  obtain ⟨hargs, hsz, hP, hK, hN, hG⟩ := hv
  have hx := B.exec
  have hb := B.bytes
  have hr := B.returns
  have hlocks := B.notSynchronized
  have hts := atoms_spec (ws := WS) B.pre
  have hown : s.vm.findClass R_Ar = some m.cls := findClass_of_methodNamed B.named
  have C : xC p m c b_Ar_fillJ 5 s args R_Ar D clA (tysA κ) 52 Θ sz := ⟨⟨hx, hb, hml, hown, hts⟩, hK, hN, hG, hsz⟩
  have hS : va_S (xA 52 Θ sz) s.heap s.heap [] := va_S.rf
  have tL6 : ∀ (n : Nat) (v3 : Int32) (v4 : Int32) (I : SI) (J : SJ), p_Ar_fillJ_L6 a0 p1 post n v3 v4 I J → ∀ (H : Heap) (locs : List Loc) (ls : Array Slot), lv_has ls 5 [(0, .ref (Θ (4 + a0))), (1, .long p1), (3, .int v3), (4, .int v4)] → va_P D clA (xw 52 Θ (eC Θ κ) I J) H → va_S (xA 52 Θ sz) s.heap H locs → W p l e (headSpec WS rm_Ar_fillJ).room s m args below meth c H locs 0 0 (MQ below (xQv D clA 52 Θ (eC Θ κ) sz post) args s 0 0 (xA 52 Θ sz)) (F0 m 6 ls []) := by
    intro n
    induction n with
    | zero =>
      intro v3 v4 I J h H locs ls hl hP hS
      exact h.elim
    | succ n ih =>
      intro v3 v4 I J h H locs ls hl hP hS
      unfold p_Ar_fillJ_L6 at h
      refine lv_iload_n hx hb d_Ar_fillJ_6 rfl (lv_at hl 2 rfl) ?_
      refine lv_iload hx hb d_Ar_fillJ_7 (lv_at hl 3 rfl) ?_
      refine lv_icmp_ge hx hb d_Ar_fillJ_9 (tgt := 22) rfl (fun hc6 => ?_) (fun hc6 => ?_)
      · have h := h.1 hc6
        exact x_vret hx hb hr hlocks hP hS h d_Ar_fillJ_22
      · have h := h.2 hc6
        refine lv_aload_n hx hb d_Ar_fillJ_12 rfl (lv_at hl 0 rfl) ?_
        refine lv_iload_n hx hb d_Ar_fillJ_13 rfl (lv_at hl 2 rfl) ?_
        refine lv_lload_n hx hb d_Ar_fillJ_14 rfl (lv_at hl 1 rfl) ?_
        obtain ⟨j3, ej3, h_j3, h⟩ := h
        refine x_last hx hb hK hΘ hP hS (4 + a0) 1 (xlt h_a0 rfl) (eC_keyRow h_a0) rfl ej3 h_j3 (by decide) d_Ar_fillJ_15 (fun H locs hP hS => ?_)
        obtain ⟨J4, eJ4⟩ : ∃ y, y = xv J (4 + a0) j3 p1 := ⟨_, rfl⟩
        have hP : va_P D clA (xw 52 Θ (eC Θ κ) I J4) H := by rw [eJ4]; exact hP
        have h := h J4 eJ4
        obtain ⟨x5, ex5⟩ : ∃ y : Int32, y = v3 + (1 : Int32) := ⟨_, rfl⟩
        have h := h x5 ex5
        refine lv_iinc (k := 2) (v := x5) hx hb d_Ar_fillJ_16 hl rfl (by rw [ex5]; rfl) (Nat.le_of_ble_eq_true rfl) (lv' := [(3, .int x5), (0, .ref (Θ (4 + a0))), (1, .long p1), (4, .int v4)]) rfl (fun ls hl => ?_)
        refine lv_goto hx hb d_Ar_fillJ_19 (tgt := 6) rfl ?_
        exact ih _ _ _ _ h _ _ _ (lv_sub hl [1, 2, 0, 3] rfl) hP hS
  have hE := lg_entry_eq m [.ref (Θ (4 + a0)), .long p1] 5
  rw [← hargs] at hE
  rw [hE]
  have hl := lv_entry [.ref (Θ (4 + a0)), .long p1] (n := 5) (Nat.le_of_ble_eq_true rfl)
  generalize (lg_sl [.ref (Θ (4 + a0)), .long p1] ++ List.replicate (5 - (lg_sl [.ref (Θ (4 + a0)), .long p1]).length) Slot.unset).toArray = ls at hl ⊢
  have hl : lv_has ls 5 [(0, .ref (Θ (4 + a0))), (1, .long p1)] := hl
  unfold p_Ar_fillJ at h
  refine lv_iconst (v := (0 : Int32)) hx hb d_Ar_fillJ_0 (by decide) ?_
  refine lv_topi (fun x1 ex1 => ?_)
  have h := h x1 ex1
  refine lv_istore_n hx hb d_Ar_fillJ_1 rfl hl (Nat.le_of_ble_eq_true rfl) (lv' := [(3, .int x1), (0, .ref (Θ (4 + a0))), (1, .long p1)]) rfl (fun ls hl => ?_)
  refine lv_aload_n hx hb d_Ar_fillJ_2 rfl (lv_at hl 1 rfl) ?_
  refine va_alen (v := (16 : Int32)) hx hb hK hP (4 + a0) 1 (xw_at (xlt h_a0 rfl) ((eC_keyRow h_a0) _ _)) rfl rfl d_Ar_fillJ_3 ?_
  refine lv_topi (fun x2 ex2 => ?_)
  have h := h x2 ex2
  refine lv_istore hx hb d_Ar_fillJ_4 hl (Nat.le_of_ble_eq_true rfl) (lv' := [(4, .int x2), (3, .int x1), (0, .ref (Θ (4 + a0))), (1, .long p1)]) rfl (fun ls hl => ?_)
  obtain ⟨n7, h⟩ := h
  refine tL6 n7 _ _ _ _ h _ _ _ (lv_sub hl [2, 3, 1, 0] rfl) hP hS
set_option maxHeartbeats 4000000 in
set_option maxRecDepth 100000 in
theorem c_Co_stepOn (l : Launch) (D : va_G) (κ : Nat → ClassId) {Θ : Nat → Nat} (hΘ : xJ 52 Θ) (sz : Nat) (a1 : Nat) (h_a1 : a1 < 2) (a2 : Nat) (h_a2 : a2 < 2) (p3 : Int32) (p4 : Int32) (p5 : Int64) (I : SI) (J : SJ) (post : SI → SJ → Prop) (h : p_Co_stepOn a1 a2 p3 p4 p5 post I J) : Met l y_Co_stepOn WS rm_Co_stepOn (va_Pc [.ref (Θ (1)), .ref (Θ (4 + a1)), .ref (Θ (4 + a2)), .int p3, .int p4, .long p5] (xPR D clA (tysA κ) 52 Θ (eC Θ κ) sz I J)) (xQv D clA 52 Θ (eC Θ κ) sz post) 0 0 (xA 52 Θ sz) := by
  refine xMet (cc := b_Co_stepOn) (maxL := 13) (ret := none) (by decide) q_Co_stepOn.1 ?_
  intro p e s m args below meth c s₁ B hml hv
  obtain ⟨hargs, hsz, hP, hK, hN, hG⟩ := hv
  have hx := B.exec
  have hb := B.bytes
  have hr := B.returns
  have hlocks := B.notSynchronized
  have hts := atoms_spec (ws := WS) B.pre
  have hown : s.vm.findClass R_Co = some m.cls := findClass_of_methodNamed B.named
  have C : xC p m c b_Co_stepOn 13 s args R_Co D clA (tysA κ) 52 Θ sz := ⟨⟨hx, hb, hml, hown, hts⟩, hK, hN, hG, hsz⟩
  obtain ⟨⟨tU, hZU, hTU⟩, -, -⟩ := hG
  have hS : va_S (xA 52 Θ sz) s.heap s.heap [] := va_S.rf
  have tJ86 : ∀ (k3 : Int32 → SI → SJ → Prop), (∀ (v7 : Int32) (I : SI) (J : SJ), k3 v7 I J → ∀ (H : Heap) (locs : List Loc) (ls : Array Slot), lv_has ls 13 [(0, .ref (Θ (1))), (1, .ref (Θ (4 + a1))), (2, .ref (Θ (4 + a2))), (3, .int p3), (4, .int p4), (5, .long p5), (7, .int v7)] → va_P D clA (xw 52 Θ (eC Θ κ) I J) H → va_S (xA 52 Θ sz) s.heap H locs → W p l e (headSpec WS rm_Co_stepOn).room s m args below meth c H locs 0 0 (MQ below (xQv D clA 52 Θ (eC Θ κ) sz post) args s 0 0 (xA 52 Θ sz)) (F0 m 3 ls [])) → ∀ (v7 : Int32) (s0 : Int64) (s1 : Int32) (I : SI) (J : SJ), p_Co_stepOn_86 a1 a2 p3 p4 p5 post k3 v7 s0 s1 I J → ∀ (H : Heap) (locs : List Loc) (ls : Array Slot), lv_has ls 13 [(0, .ref (Θ (1))), (1, .ref (Θ (4 + a1))), (2, .ref (Θ (4 + a2))), (3, .int p3), (4, .int p4), (5, .long p5), (7, .int v7)] → va_P D clA (xw 52 Θ (eC Θ κ) I J) H → va_S (xA 52 Θ sz) s.heap H locs → W p l e (headSpec WS rm_Co_stepOn).room s m args below meth c H locs 0 0 (MQ below (xQv D clA 52 Θ (eC Θ κ) sz post) args s 0 0 (xA 52 Θ sz)) (F0 m 86 ls [.long s0, .int s1, .ref (Θ (4 + a2))]) := by
    intro k3 hk3 v7 s0 s1 I J h H locs ls hl hP hS
    unfold p_Co_stepOn_86 at h
    refine lv_iload hx hb d_Co_stepOn_86 (lv_at hl 6 rfl) ?_
    refine lv_iconst (v := (1 : Int32)) hx hb d_Co_stepOn_88 (by decide) ?_
    refine lv_iand hx hb d_Co_stepOn_89 ?_
    refine lv_i2l (v := Int32.toInt64 (v7 &&& (1 : Int32))) hx hb d_Co_stepOn_90 rfl ?_
    refine lv_lload hx hb d_Co_stepOn_91 (lv_at hl 5 rfl) ?_
    refine lv_lmul hx hb d_Co_stepOn_93 ?_
    refine lv_ladd hx hb d_Co_stepOn_94 ?_
    obtain ⟨j11, ej11, h_j11, h⟩ := h
    refine x_last hx hb hK hΘ hP hS (4 + a2) 1 (xlt h_a2 rfl) (eC_keyRow h_a2) rfl ej11 h_j11 (by decide) d_Co_stepOn_95 (fun H locs hP hS => ?_)
    obtain ⟨J12, eJ12⟩ : ∃ y, y = xv J (4 + a2) j11 (s0 + ((Int32.toInt64 (v7 &&& (1 : Int32))) * p5)) := ⟨_, rfl⟩
    have hP : va_P D clA (xw 52 Θ (eC Θ κ) I J12) H := by rw [eJ12]; exact hP
    have h := h J12 eJ12
    obtain ⟨x13, ex13⟩ : ∃ y : Int32, y = v7 + (1 : Int32) := ⟨_, rfl⟩
    have h := h x13 ex13
    refine lv_iinc (k := 6) (v := x13) hx hb d_Co_stepOn_96 hl rfl (by rw [ex13]; rfl) (Nat.le_of_ble_eq_true rfl) (lv' := [(7, .int x13), (0, .ref (Θ (1))), (1, .ref (Θ (4 + a1))), (2, .ref (Θ (4 + a2))), (3, .int p3), (4, .int p4), (5, .long p5)]) rfl (fun ls hl => ?_)
    refine lv_goto hx hb d_Co_stepOn_99 (tgt := 3) rfl ?_
    exact hk3 _ _ _ h _ _ _ (lv_sub hl [1, 2, 3, 4, 5, 6, 0] rfl) hP hS
  have tL3 : ∀ (n : Nat) (v7 : Int32) (I : SI) (J : SJ), p_Co_stepOn_L3 a1 a2 p3 p4 p5 post n v7 I J → ∀ (H : Heap) (locs : List Loc) (ls : Array Slot), lv_has ls 13 [(0, .ref (Θ (1))), (1, .ref (Θ (4 + a1))), (2, .ref (Θ (4 + a2))), (3, .int p3), (4, .int p4), (5, .long p5), (7, .int v7)] → va_P D clA (xw 52 Θ (eC Θ κ) I J) H → va_S (xA 52 Θ sz) s.heap H locs → W p l e (headSpec WS rm_Co_stepOn).room s m args below meth c H locs 0 0 (MQ below (xQv D clA 52 Θ (eC Θ κ) sz post) args s 0 0 (xA 52 Θ sz)) (F0 m 3 ls []) := by
    intro n
    induction n with
    | zero =>
      intro v7 I J h H locs ls hl hP hS
      exact h.elim
    | succ n ih =>
      intro v7 I J h H locs ls hl hP hS
      unfold p_Co_stepOn_L3 at h
      refine lv_iload hx hb d_Co_stepOn_3 (lv_at hl 6 rfl) ?_
      refine lv_bipush (v := (16 : Int32)) hx hb d_Co_stepOn_5 (by decide) ?_
      refine lv_icmp_ge hx hb d_Co_stepOn_7 (tgt := 102) rfl (fun hc15 => ?_) (fun hc15 => ?_)
      · have h := h.1 hc15
        exact x_vret hx hb hr hlocks hP hS h d_Co_stepOn_102
      · have h := h.2 hc15
        refine lv_iload hx hb d_Co_stepOn_10 (lv_at hl 6 rfl) ?_
        refine lv_iconst (v := (1 : Int32)) hx hb d_Co_stepOn_12 (by decide) ?_
        refine lv_iushr (v := xsu v7 (1 : Int32)) hx hb d_Co_stepOn_13 rfl ?_
        refine lv_topi (fun x2 ex2 => ?_)
        have h := h x2 ex2
        refine lv_istore hx hb d_Co_stepOn_14 hl (Nat.le_of_ble_eq_true rfl) (lv' := [(8, .int x2), (0, .ref (Θ (1))), (1, .ref (Θ (4 + a1))), (2, .ref (Θ (4 + a2))), (3, .int p3), (4, .int p4), (5, .long p5), (7, .int v7)]) rfl (fun ls hl => ?_)
        refine lv_aload_n hx hb d_Co_stepOn_16 rfl (lv_at hl 2 rfl) ?_
        refine lv_iload hx hb d_Co_stepOn_17 (lv_at hl 0 rfl) ?_
        obtain ⟨j3, ej3, h_j3, h⟩ := h
        refine x_lald hx hb hK hP (4 + a1) 1 (xlt h_a1 rfl) (eC_keyRow h_a1) rfl ej3 h_j3 (by decide) d_Co_stepOn_19 ?_
        refine va_gets hx hb hZU hS hown (hts _ k_319) (fun _ h9 => h9) d_Co_stepOn_20 ?_
        refine lv_aload_n hx hb d_Co_stepOn_23 rfl (lv_at hl 1 rfl) ?_
        refine gfC_Co_19 C hP d_Co_stepOn_24 ?_
        refine lv_iload hx hb d_Co_stepOn_27 (lv_at hl 7 rfl) ?_
        obtain ⟨j4, ej4, h_j4, h⟩ := h
        refine x_iald hx hb hK hP (3) 0 (Nat.le_of_ble_eq_true rfl) eC_sums rfl ej4 h_j4 (by decide) d_Co_stepOn_29 ?_
        refine lv_iload_n hx hb d_Co_stepOn_30 rfl (lv_at hl 4 rfl) ?_
        refine lv_ixor hx hb d_Co_stepOn_31 ?_
        refine lv_iload hx hb d_Co_stepOn_32 (lv_at hl 5 rfl) ?_
        refine lv_iand hx hb d_Co_stepOn_34 ?_
        obtain ⟨j5, ej5, h_j5, h⟩ := h
        refine va_tl hx hb hTU hS (by rw [ej5]; exact vp_in_nI h_j5 (by decide)) (v := .long (unlL j5)) (by rw [ej5, nI_clamp (Nat.lt_trans h_j5 (by decide))]; rfl) d_Co_stepOn_35 ?_
        refine lv_ladd hx hb d_Co_stepOn_36 ?_
        refine lv_topl (fun x6 ex6 => ?_)
        have h := h x6 ex6
        refine lv_lstore hx hb d_Co_stepOn_37 hl (Nat.le_of_ble_eq_true rfl) (lv' := [(9, .long x6), (8, .int x2), (0, .ref (Θ (1))), (1, .ref (Θ (4 + a1))), (2, .ref (Θ (4 + a2))), (3, .int p3), (4, .int p4), (5, .long p5), (7, .int v7)]) rfl (fun ls hl => ?_)
        refine lv_aload_n hx hb d_Co_stepOn_39 rfl (lv_at hl 3 rfl) ?_
        refine lv_iload hx hb d_Co_stepOn_40 (lv_at hl 1 rfl) ?_
        refine lv_bipush (v := (8 : Int32)) hx hb d_Co_stepOn_42 (by decide) ?_
        refine lv_iadd hx hb d_Co_stepOn_44 ?_
        obtain ⟨j7, ej7, h_j7, h⟩ := h
        refine x_lald hx hb hK hP (4 + a1) 1 (xlt h_a1 rfl) (eC_keyRow h_a1) rfl ej7 h_j7 (by decide) d_Co_stepOn_45 ?_
        refine va_gets hx hb hZU hS hown (hts _ k_319) (fun _ h9 => h9) d_Co_stepOn_46 ?_
        refine lv_aload_n hx hb d_Co_stepOn_49 rfl (lv_at hl 2 rfl) ?_
        refine gfC_Co_19 C hP d_Co_stepOn_50 ?_
        refine lv_iload hx hb d_Co_stepOn_53 (lv_at hl 8 rfl) ?_
        refine lv_bipush (v := (16 : Int32)) hx hb d_Co_stepOn_55 (by decide) ?_
        refine lv_iadd hx hb d_Co_stepOn_57 ?_
        obtain ⟨j8, ej8, h_j8, h⟩ := h
        refine x_iald hx hb hK hP (3) 0 (Nat.le_of_ble_eq_true rfl) eC_sums rfl ej8 h_j8 (by decide) d_Co_stepOn_58 ?_
        refine lv_iload_n hx hb d_Co_stepOn_59 rfl (lv_at hl 5 rfl) ?_
        refine lv_ixor hx hb d_Co_stepOn_60 ?_
        refine lv_iload hx hb d_Co_stepOn_61 (lv_at hl 6 rfl) ?_
        refine lv_iand hx hb d_Co_stepOn_63 ?_
        obtain ⟨j9, ej9, h_j9, h⟩ := h
        refine va_tl hx hb hTU hS (by rw [ej9]; exact vp_in_nI h_j9 (by decide)) (v := .long (unlL j9)) (by rw [ej9, nI_clamp (Nat.lt_trans h_j9 (by decide))]; rfl) d_Co_stepOn_64 ?_
        refine lv_ladd hx hb d_Co_stepOn_65 ?_
        refine lv_topl (fun x10 ex10 => ?_)
        have h := h x10 ex10
        refine lv_lstore hx hb d_Co_stepOn_66 hl (Nat.le_of_ble_eq_true rfl) (lv' := [(11, .long x10), (9, .long x6), (8, .int x2), (0, .ref (Θ (1))), (1, .ref (Θ (4 + a1))), (2, .ref (Θ (4 + a2))), (3, .int p3), (4, .int p4), (5, .long p5), (7, .int v7)]) rfl (fun ls hl => ?_)
        refine lv_aload_n hx hb d_Co_stepOn_68 rfl (lv_at hl 5 rfl) ?_
        refine lv_iload hx hb d_Co_stepOn_69 (lv_at hl 9 rfl) ?_
        refine lv_lload hx hb d_Co_stepOn_71 (lv_at hl 1 rfl) ?_
        refine lv_lload hx hb d_Co_stepOn_73 (lv_at hl 0 rfl) ?_
        refine W.lcmp hx hb d_Co_stepOn_75 ?_
        refine lv_if_ge hx hb d_Co_stepOn_76 (tgt := 84) rfl (fun hc14 => ?_) (fun hc14 => ?_)
        · have h := h.1 hc14
          refine lv_lload hx hb d_Co_stepOn_84 (lv_at hl 0 rfl) ?_
          exact tJ86 _ ih _ _ _ _ _ h _ _ _ (lv_sub hl [3, 4, 5, 6, 7, 8, 9] rfl) hP hS
        · have h := h.2 hc14
          refine lv_lload hx hb d_Co_stepOn_79 (lv_at hl 1 rfl) ?_
          refine lv_goto hx hb d_Co_stepOn_81 (tgt := 86) rfl ?_
          exact tJ86 _ ih _ _ _ _ _ h _ _ _ (lv_sub hl [3, 4, 5, 6, 7, 8, 9] rfl) hP hS
  have hE := lg_entry_eq m [.ref (Θ (1)), .ref (Θ (4 + a1)), .ref (Θ (4 + a2)), .int p3, .int p4, .long p5] 13
  rw [← hargs] at hE
  rw [hE]
  have hl := lv_entry [.ref (Θ (1)), .ref (Θ (4 + a1)), .ref (Θ (4 + a2)), .int p3, .int p4, .long p5] (n := 13) (Nat.le_of_ble_eq_true rfl)
  generalize (lg_sl [.ref (Θ (1)), .ref (Θ (4 + a1)), .ref (Θ (4 + a2)), .int p3, .int p4, .long p5] ++ List.replicate (13 - (lg_sl [.ref (Θ (1)), .ref (Θ (4 + a1)), .ref (Θ (4 + a2)), .int p3, .int p4, .long p5]).length) Slot.unset).toArray = ls at hl ⊢
  have hl : lv_has ls 13 [(0, .ref (Θ (1))), (1, .ref (Θ (4 + a1))), (2, .ref (Θ (4 + a2))), (3, .int p3), (4, .int p4), (5, .long p5)] := hl
  unfold p_Co_stepOn at h
  refine lv_iconst (v := (0 : Int32)) hx hb d_Co_stepOn_0 (by decide) ?_
  refine lv_topi (fun x1 ex1 => ?_)
  have h := h x1 ex1
  refine lv_istore hx hb d_Co_stepOn_1 hl (Nat.le_of_ble_eq_true rfl) (lv' := [(7, .int x1), (0, .ref (Θ (1))), (1, .ref (Θ (4 + a1))), (2, .ref (Θ (4 + a2))), (3, .int p3), (4, .int p4), (5, .long p5)]) rfl (fun ls hl => ?_)
  obtain ⟨n16, h⟩ := h
  refine tL3 n16 _ _ _ h _ _ _ (lv_sub hl [1, 2, 3, 4, 5, 6, 0] rfl) hP hS
set_option maxHeartbeats 4000000 in
set_option maxRecDepth 100000 in
theorem c_Co_nearest (l : Launch) (D : va_G) (κ : Nat → ClassId) {Θ : Nat → Nat} (hΘ : xJ 52 Θ) (sz : Nat) (p1 : Int64) (p3 : Int32) (I : SI) (J : SJ) (post : Int64 → SI → SJ → Prop) (h : p_Co_nearest p1 p3 post I J) : Met l y_Co_nearest WS rm_Co_nearest (va_Pc [.ref (Θ (1)), .long p1, .int p3] (xPR D clA (tysA κ) 52 Θ (eC Θ κ) sz I J)) (xQl D clA 52 Θ (eC Θ κ) sz post) 0 0 (xA 52 Θ sz) := by
  refine xMet (cc := b_Co_nearest) (maxL := 11) (ret := (some .long)) (by decide) q_Co_nearest.1 ?_
  intro p e s m args below meth c s₁ B hml hv
  obtain ⟨hargs, hsz, hP, hK, hN, hG⟩ := hv
  have hx := B.exec
  have hb := B.bytes
  have hr := B.returns
  have hlocks := B.notSynchronized
  have hts := atoms_spec (ws := WS) B.pre
  have hown : s.vm.findClass R_Co = some m.cls := findClass_of_methodNamed B.named
  have C : xC p m c b_Co_nearest 11 s args R_Co D clA (tysA κ) 52 Θ sz := ⟨⟨hx, hb, hml, hown, hts⟩, hK, hN, hG, hsz⟩
  have hS : va_S (xA 52 Θ sz) s.heap s.heap [] := va_S.rf
  have tL36 : ∀ (n : Nat) (v4 : Int64) (v6 : Int32) (v7 : Int32) (I : SI) (J : SJ), p_Co_nearest_L36 p1 p3 post n v4 v6 v7 I J → ∀ (H : Heap) (locs : List Loc) (ls : Array Slot), lv_has ls 11 [(0, .ref (Θ (1))), (4, .long v4), (6, .int v6), (7, .int v7)] → va_P D clA (xw 52 Θ (eC Θ κ) I J) H → va_S (xA 52 Θ sz) s.heap H locs → W p l e (headSpec WS rm_Co_nearest).room s m args below meth c H locs 0 0 (MQ below (xQl D clA 52 Θ (eC Θ κ) sz post) args s 0 0 (xA 52 Θ sz)) (F0 m 36 ls []) := by
    intro n
    induction n with
    | zero =>
      intro v4 v6 v7 I J h H locs ls hl hP hS
      exact h.elim
    | succ n ih =>
      intro v4 v6 v7 I J h H locs ls hl hP hS
      unfold p_Co_nearest_L36 at h
      refine lv_iload hx hb d_Co_nearest_36 (lv_at hl 3 rfl) ?_
      refine lv_bipush (v := (36 : Int32)) hx hb d_Co_nearest_38 (by decide) ?_
      refine lv_icmp_ge hx hb d_Co_nearest_40 (tgt := 141) rfl (fun hc23 => ?_) (fun hc23 => ?_)
      · have h := h.1 hc23
        refine lv_aload_n hx hb d_Co_nearest_141 rfl (lv_at hl 0 rfl) ?_
        refine gfC_Co_29 C hP d_Co_nearest_142 ?_
        refine lv_iconst (v := (0 : Int32)) hx hb d_Co_nearest_145 (by decide) ?_
        refine x_lald hx hb hK hP (4) 1 (Nat.le_of_ble_eq_true rfl) (fun _ _ => rfl) rfl (j := 0) (by decide) (Nat.le_of_ble_eq_true rfl) (by decide) d_Co_nearest_146 ?_
        exact x_lret hx hb hr hlocks hP hS h d_Co_nearest_147
      · have h := h.2 hc23
        refine lv_iload hx hb d_Co_nearest_43 (lv_at hl 2 rfl) ?_
        refine x_gi (x_S C hP hS (c_Co_nextPlace l D κ hΘ sz v6 I J _ h) q_Co_nextPlace k_294 k_293 rfl rfl ⟨Nat.le_of_ble_eq_true rfl, Nat.le_of_ble_eq_true rfl⟩ rfl hl.1 rfl (Nat.le_of_ble_eq_true rfl) d_Co_nearest_45) hS (fun r10 I8 J9 h H locs hP hS => ?_)
        refine lv_istore hx hb d_Co_nearest_48 hl (Nat.le_of_ble_eq_true rfl) (lv' := [(8, .int r10), (0, .ref (Θ (1))), (4, .long v4), (6, .int v6), (7, .int v7)]) rfl (fun ls hl => ?_)
        refine lv_iload hx hb d_Co_nearest_50 (lv_at hl 0 rfl) ?_
        refine x_gi (x_S C hP hS (c_Co_nextPlace l D κ hΘ sz r10 I8 J9 _ h) q_Co_nextPlace k_294 k_293 rfl rfl ⟨Nat.le_of_ble_eq_true rfl, Nat.le_of_ble_eq_true rfl⟩ rfl hl.1 rfl (Nat.le_of_ble_eq_true rfl) d_Co_nearest_52) hS (fun r13 I11 J12 h H locs hP hS => ?_)
        refine lv_istore hx hb d_Co_nearest_55 hl (Nat.le_of_ble_eq_true rfl) (lv' := [(9, .int r13), (8, .int r10), (0, .ref (Θ (1))), (4, .long v4), (6, .int v6), (7, .int v7)]) rfl (fun ls hl => ?_)
        refine lv_lload hx hb d_Co_nearest_57 (lv_at hl 3 rfl) ?_
        refine lv_iload hx hb d_Co_nearest_59 (lv_at hl 4 rfl) ?_
        refine lv_lushr (v := xlu v4 v6) hx hb d_Co_nearest_61 rfl ?_
        refine lv_lconst (v := (1 : Int64)) hx hb d_Co_nearest_62 (by decide) ?_
        refine lv_land hx hb d_Co_nearest_63 ?_
        refine lv_l2i (v := Int64.toInt32 ((xlu v4 v6) &&& (1 : Int64))) hx hb d_Co_nearest_64 rfl ?_
        refine lv_lload hx hb d_Co_nearest_65 (lv_at hl 3 rfl) ?_
        refine lv_iload hx hb d_Co_nearest_67 (lv_at hl 1 rfl) ?_
        refine lv_lushr (v := xlu v4 r10) hx hb d_Co_nearest_69 rfl ?_
        refine lv_lconst (v := (1 : Int64)) hx hb d_Co_nearest_70 (by decide) ?_
        refine lv_land hx hb d_Co_nearest_71 ?_
        refine lv_l2i (v := Int64.toInt32 ((xlu v4 r10) &&& (1 : Int64))) hx hb d_Co_nearest_72 rfl ?_
        refine lv_iconst (v := (1 : Int32)) hx hb d_Co_nearest_73 (by decide) ?_
        refine lv_ishl hx hb d_Co_nearest_74 ?_
        refine lv_ior hx hb d_Co_nearest_75 ?_
        refine lv_topi (fun x14 ex14 => ?_)
        have h := h x14 ex14
        refine lv_istore hx hb d_Co_nearest_76 hl (Nat.le_of_ble_eq_true rfl) (lv' := [(10, .int x14), (9, .int r13), (8, .int r10), (0, .ref (Θ (1))), (4, .long v4), (6, .int v6), (7, .int v7)]) rfl (fun ls hl => ?_)
        refine lv_aload_n hx hb d_Co_nearest_78 rfl (lv_at hl 3 rfl) ?_
        refine lv_aload_n hx hb d_Co_nearest_79 rfl (lv_at hl 3 rfl) ?_
        refine gfC_Co_29 C hP d_Co_nearest_80 ?_
        refine lv_aload_n hx hb d_Co_nearest_83 rfl (lv_at hl 3 rfl) ?_
        refine gfC_Co_32 C hP d_Co_nearest_84 ?_
        refine lv_iload hx hb d_Co_nearest_87 (lv_at hl 0 rfl) ?_
        refine lv_iconst (v := (3 : Int32)) hx hb d_Co_nearest_89 (by decide) ?_
        refine lv_lconst (v := (1 : Int64)) hx hb d_Co_nearest_90 (by decide) ?_
        refine lv_bipush (v := (35 : Int32)) hx hb d_Co_nearest_91 (by decide) ?_
        refine lv_iload hx hb d_Co_nearest_93 (lv_at hl 6 rfl) ?_
        refine lv_isub hx hb d_Co_nearest_95 ?_
        refine lv_lshl (v := xll (1 : Int64) ((35 : Int32) - v7)) hx hb d_Co_nearest_96 rfl ?_
        refine x_gv (x_V C hP hS (Nat.le_of_ble_eq_true rfl) (eC_Co _ _) rfl (c_Co_stepOn l D κ hΘ sz (0) (Nat.le_of_ble_eq_true rfl) (1) (Nat.le_of_ble_eq_true rfl) x14 (3 : Int32) (xll (1 : Int64) ((35 : Int32) - v7)) I11 J12 _ h) q_Co_stepOn k_317 sel_Co_stepOn k_315 rfl rfl ⟨Nat.le_of_ble_eq_true rfl, Nat.le_of_ble_eq_true rfl⟩ rfl hl.1 rfl (Nat.le_of_ble_eq_true rfl) d_Co_nearest_97) hS (fun I15 J16 h H locs hP hS => ?_)
        refine lv_aload_n hx hb d_Co_nearest_100 rfl (lv_at hl 3 rfl) ?_
        refine lv_aload_n hx hb d_Co_nearest_101 rfl (lv_at hl 3 rfl) ?_
        refine gfC_Co_32 C hP d_Co_nearest_102 ?_
        refine lv_aload_n hx hb d_Co_nearest_105 rfl (lv_at hl 3 rfl) ?_
        refine gfC_Co_29 C hP d_Co_nearest_106 ?_
        refine lv_lload hx hb d_Co_nearest_109 (lv_at hl 4 rfl) ?_
        refine lv_iload hx hb d_Co_nearest_111 (lv_at hl 1 rfl) ?_
        refine lv_lushr (v := xlu v4 r13) hx hb d_Co_nearest_113 rfl ?_
        refine lv_lconst (v := (1 : Int64)) hx hb d_Co_nearest_114 (by decide) ?_
        refine lv_land hx hb d_Co_nearest_115 ?_
        refine lv_l2i (v := Int64.toInt32 ((xlu v4 r13) &&& (1 : Int64))) hx hb d_Co_nearest_116 rfl ?_
        refine lv_iconst (v := (1 : Int32)) hx hb d_Co_nearest_117 (by decide) ?_
        refine lv_lconst (v := (1 : Int64)) hx hb d_Co_nearest_118 (by decide) ?_
        refine lv_bipush (v := (34 : Int32)) hx hb d_Co_nearest_119 (by decide) ?_
        refine lv_iload hx hb d_Co_nearest_121 (lv_at hl 6 rfl) ?_
        refine lv_isub hx hb d_Co_nearest_123 ?_
        refine lv_lshl (v := xll (1 : Int64) ((34 : Int32) - v7)) hx hb d_Co_nearest_124 rfl ?_
        refine x_gv (x_V C hP hS (Nat.le_of_ble_eq_true rfl) (eC_Co _ _) rfl (c_Co_stepOn l D κ hΘ sz (1) (Nat.le_of_ble_eq_true rfl) (0) (Nat.le_of_ble_eq_true rfl) (Int64.toInt32 ((xlu v4 r13) &&& (1 : Int64))) (1 : Int32) (xll (1 : Int64) ((34 : Int32) - v7)) I15 J16 _ h) q_Co_stepOn k_317 sel_Co_stepOn k_315 rfl rfl ⟨Nat.le_of_ble_eq_true rfl, Nat.le_of_ble_eq_true rfl⟩ rfl hl.1 rfl (Nat.le_of_ble_eq_true rfl) d_Co_nearest_125) hS (fun I17 J18 h H locs hP hS => ?_)
        refine lv_iload hx hb d_Co_nearest_128 (lv_at hl 1 rfl) ?_
        refine x_gi (x_S C hP hS (c_Co_nextPlace l D κ hΘ sz r13 I17 J18 _ h) q_Co_nextPlace k_294 k_293 rfl rfl ⟨Nat.le_of_ble_eq_true rfl, Nat.le_of_ble_eq_true rfl⟩ rfl hl.1 rfl (Nat.le_of_ble_eq_true rfl) d_Co_nearest_130) hS (fun r21 I19 J20 h H locs hP hS => ?_)
        refine lv_istore hx hb d_Co_nearest_133 hl (Nat.le_of_ble_eq_true rfl) (lv' := [(6, .int r21), (10, .int x14), (9, .int r13), (8, .int r10), (0, .ref (Θ (1))), (4, .long v4), (7, .int v7)]) rfl (fun ls hl => ?_)
        obtain ⟨x22, ex22⟩ : ∃ y : Int32, y = v7 + (2 : Int32) := ⟨_, rfl⟩
        have h := h x22 ex22
        refine lv_iinc (k := 6) (v := x22) hx hb d_Co_nearest_135 hl rfl (by rw [ex22]; rfl) (Nat.le_of_ble_eq_true rfl) (lv' := [(7, .int x22), (6, .int r21), (10, .int x14), (9, .int r13), (8, .int r10), (0, .ref (Θ (1))), (4, .long v4)]) rfl (fun ls hl => ?_)
        refine lv_goto hx hb d_Co_nearest_138 (tgt := 36) rfl ?_
        exact ih _ _ _ _ _ h _ _ _ (lv_sub hl [5, 6, 1, 0] rfl) hP hS
  have hE := lg_entry_eq m [.ref (Θ (1)), .long p1, .int p3] 11
  rw [← hargs] at hE
  rw [hE]
  have hl := lv_entry [.ref (Θ (1)), .long p1, .int p3] (n := 11) (Nat.le_of_ble_eq_true rfl)
  generalize (lg_sl [.ref (Θ (1)), .long p1, .int p3] ++ List.replicate (11 - (lg_sl [.ref (Θ (1)), .long p1, .int p3]).length) Slot.unset).toArray = ls at hl ⊢
  have hl : lv_has ls 11 [(0, .ref (Θ (1))), (1, .long p1), (3, .int p3)] := hl
  unfold p_Co_nearest at h
  refine lv_lload_n hx hb d_Co_nearest_0 rfl (lv_at hl 1 rfl) ?_
  refine lv_aload_n hx hb d_Co_nearest_1 rfl (lv_at hl 0 rfl) ?_
  refine gfC_Co_11 C hP d_Co_nearest_2 ?_
  refine lv_iload_n hx hb d_Co_nearest_5 rfl (lv_at hl 2 rfl) ?_
  refine lv_bipush (v := (7 : Int32)) hx hb d_Co_nearest_6 (by decide) ?_
  refine lv_iand hx hb d_Co_nearest_8 ?_
  obtain ⟨j1, ej1, h_j1, h⟩ := h
  refine x_lald hx hb hK hP (2) 1 (Nat.le_of_ble_eq_true rfl) eC_colourRows rfl ej1 h_j1 (by decide) d_Co_nearest_9 ?_
  refine lv_lxor hx hb d_Co_nearest_10 ?_
  refine lv_topl (fun x2 ex2 => ?_)
  have h := h x2 ex2
  refine lv_lstore hx hb d_Co_nearest_11 hl (Nat.le_of_ble_eq_true rfl) (lv' := [(4, .long x2), (0, .ref (Θ (1))), (1, .long p1), (3, .int p3)]) rfl (fun ls hl => ?_)
  refine lv_aload_n hx hb d_Co_nearest_13 rfl (lv_at hl 1 rfl) ?_
  refine gfC_Co_29 C hP d_Co_nearest_14 ?_
  refine lv_ldc2 (v := (1099511627776000 : Int64)) hx hb hown (hts _ k_311) d_Co_nearest_17 ?_
  refine x_gv (x_S C hP hS (c_Ar_fillJ l D κ hΘ sz (0) (Nat.le_of_ble_eq_true rfl) (1099511627776000 : Int64) I J _ h) q_Ar_fillJ k_313 k_312 rfl rfl ⟨Nat.le_of_ble_eq_true rfl, Nat.le_of_ble_eq_true rfl⟩ rfl hl.1 rfl (Nat.le_of_ble_eq_true rfl) d_Co_nearest_20) hS (fun I3 J4 h H locs hP hS => ?_)
  refine lv_aload_n hx hb d_Co_nearest_23 rfl (lv_at hl 1 rfl) ?_
  refine gfC_Co_29 C hP d_Co_nearest_24 ?_
  refine lv_iconst (v := (0 : Int32)) hx hb d_Co_nearest_27 (by decide) ?_
  refine lv_lconst (v := (0 : Int64)) hx hb d_Co_nearest_28 (by decide) ?_
  refine x_last hx hb hK hΘ hP hS (4) 1 (Nat.le_of_ble_eq_true rfl) (fun _ _ => rfl) rfl (j := 0) (by decide) (Nat.le_of_ble_eq_true rfl) (by decide) d_Co_nearest_29 (fun H locs hP hS => ?_)
  obtain ⟨J5, eJ5⟩ : ∃ y, y = xv J4 (4) 0 (0 : Int64) := ⟨_, rfl⟩
  have hP : va_P D clA (xw 52 Θ (eC Θ κ) I3 J5) H := by rw [eJ5]; exact hP
  have h := h J5 eJ5
  refine lv_iconst (v := (0 : Int32)) hx hb d_Co_nearest_30 (by decide) ?_
  refine lv_topi (fun x6 ex6 => ?_)
  have h := h x6 ex6
  refine lv_istore hx hb d_Co_nearest_31 hl (Nat.le_of_ble_eq_true rfl) (lv' := [(6, .int x6), (4, .long x2), (0, .ref (Θ (1))), (1, .long p1), (3, .int p3)]) rfl (fun ls hl => ?_)
  refine lv_iconst (v := (0 : Int32)) hx hb d_Co_nearest_33 (by decide) ?_
  refine lv_topi (fun x7 ex7 => ?_)
  have h := h x7 ex7
  refine lv_istore hx hb d_Co_nearest_34 hl (Nat.le_of_ble_eq_true rfl) (lv' := [(7, .int x7), (6, .int x6), (4, .long x2), (0, .ref (Θ (1))), (1, .long p1), (3, .int p3)]) rfl (fun ls hl => ?_)
  obtain ⟨n24, h⟩ := h
  refine tL36 n24 _ _ _ _ _ h _ _ _ (lv_sub hl [3, 2, 1, 0] rfl) hP hS
set_option maxHeartbeats 4000000 in
set_option maxRecDepth 100000 in
theorem c_Co_unlikePlaces (l : Launch) (D : va_G) (κ : Nat → ClassId) {Θ : Nat → Nat} (hΘ : xJ 52 Θ) (sz : Nat) (p0 : Int64) (I : SI) (J : SJ) (post : Int32 → SI → SJ → Prop) (h : p_Co_unlikePlaces p0 post I J) : Met l y_Co_unlikePlaces WS rm_Co_unlikePlaces (va_Pc [.long p0] (xPR D clA (tysA κ) 52 Θ (eC Θ κ) sz I J)) (xQi D clA 52 Θ (eC Θ κ) sz post) 0 0 (xA 52 Θ sz) := by
  refine xMet (cc := b_Co_unlikePlaces) (maxL := 2) (ret := (some .int)) (by decide) q_Co_unlikePlaces.1 ?_
  intro p e s m args below meth c s₁ B hml hv
  obtain ⟨hargs, hsz, hP, hK, hN, hG⟩ := hv
  have hx := B.exec
  have hb := B.bytes
  have hr := B.returns
  have hlocks := B.notSynchronized
  have hts := atoms_spec (ws := WS) B.pre
  have hown : s.vm.findClass R_Co = some m.cls := findClass_of_methodNamed B.named
  have C : xC p m c b_Co_unlikePlaces 2 s args R_Co D clA (tysA κ) 52 Θ sz := ⟨⟨hx, hb, hml, hown, hts⟩, hK, hN, hG, hsz⟩
  have hS : va_S (xA 52 Θ sz) s.heap s.heap [] := va_S.rf
  have hE := lg_entry_eq m [.long p0] 2
  rw [← hargs] at hE
  rw [hE]
  have hl := lv_entry [.long p0] (n := 2) (Nat.le_of_ble_eq_true rfl)
  generalize (lg_sl [.long p0] ++ List.replicate (2 - (lg_sl [.long p0]).length) Slot.unset).toArray = ls at hl ⊢
  have hl : lv_has ls 2 [(0, .long p0)] := hl
  unfold p_Co_unlikePlaces at h
  refine lv_lload_n hx hb d_Co_unlikePlaces_0 rfl (lv_at hl 0 rfl) ?_
  refine lv_bipush (v := (40 : Int32)) hx hb d_Co_unlikePlaces_1 (by decide) ?_
  refine lv_lushr (v := xlu p0 (40 : Int32)) hx hb d_Co_unlikePlaces_3 rfl ?_
  refine lv_l2i (v := Int64.toInt32 (xlu p0 (40 : Int32))) hx hb d_Co_unlikePlaces_4 rfl ?_
  exact x_iret hx hb hr hlocks hP hS h d_Co_unlikePlaces_5
set_option maxHeartbeats 4000000 in
set_option maxRecDepth 100000 in
theorem c_Co_blockOf (l : Launch) (D : va_G) (κ : Nat → ClassId) {Θ : Nat → Nat} (hΘ : xJ 52 Θ) (sz : Nat) (p1 : Int64) (p3 : Int32) (I : SI) (J : SJ) (post : Int32 → SI → SJ → Prop) (h : p_Co_blockOf p1 p3 post I J) : Met l y_Co_blockOf WS rm_Co_blockOf (va_Pc [.ref (Θ (1)), .long p1, .int p3] (xPR D clA (tysA κ) 52 Θ (eC Θ κ) sz I J)) (xQi D clA 52 Θ (eC Θ κ) sz post) 0 0 (xA 52 Θ sz) := by
  refine xMet (cc := b_Co_blockOf) (maxL := 7) (ret := (some .int)) (by decide) q_Co_blockOf.1 ?_
  intro p e s m args below meth c s₁ B hml hv
  obtain ⟨hargs, hsz, hP, hK, hN, hG⟩ := hv
  have hx := B.exec
  have hb := B.bytes
  have hr := B.returns
  have hlocks := B.notSynchronized
  have hts := atoms_spec (ws := WS) B.pre
  have hown : s.vm.findClass R_Co = some m.cls := findClass_of_methodNamed B.named
  have C : xC p m c b_Co_blockOf 7 s args R_Co D clA (tysA κ) 52 Θ sz := ⟨⟨hx, hb, hml, hown, hts⟩, hK, hN, hG, hsz⟩
  have hS : va_S (xA 52 Θ sz) s.heap s.heap [] := va_S.rf
  have hE := lg_entry_eq m [.ref (Θ (1)), .long p1, .int p3] 7
  rw [← hargs] at hE
  rw [hE]
  have hl := lv_entry [.ref (Θ (1)), .long p1, .int p3] (n := 7) (Nat.le_of_ble_eq_true rfl)
  generalize (lg_sl [.ref (Θ (1)), .long p1, .int p3] ++ List.replicate (7 - (lg_sl [.ref (Θ (1)), .long p1, .int p3]).length) Slot.unset).toArray = ls at hl ⊢
  have hl : lv_has ls 7 [(0, .ref (Θ (1))), (1, .long p1), (3, .int p3)] := hl
  unfold p_Co_blockOf at h
  refine lv_aload_n hx hb d_Co_blockOf_0 rfl (lv_at hl 0 rfl) ?_
  refine lv_lload_n hx hb d_Co_blockOf_1 rfl (lv_at hl 1 rfl) ?_
  refine lv_iload_n hx hb d_Co_blockOf_2 rfl (lv_at hl 2 rfl) ?_
  refine x_gl (x_V C hP hS (Nat.le_of_ble_eq_true rfl) (eC_Co _ _) rfl (c_Co_nearest l D κ hΘ sz p1 p3 I J _ h) q_Co_nearest k_308 k_309 k_307 rfl rfl ⟨Nat.le_of_ble_eq_true rfl, Nat.le_of_ble_eq_true rfl⟩ rfl hl.1 rfl (Nat.le_of_ble_eq_true rfl) d_Co_blockOf_3) hS (fun r3 I1 J2 h H locs hP hS => ?_)
  refine lv_ldc2 (v := (68719476735 : Int64)) hx hb hown (hts _ k_321) d_Co_blockOf_6 ?_
  refine lv_land hx hb d_Co_blockOf_9 ?_
  refine lv_topl (fun x4 ex4 => ?_)
  have h := h x4 ex4
  refine lv_lstore hx hb d_Co_blockOf_10 hl (Nat.le_of_ble_eq_true rfl) (lv' := [(4, .long x4), (0, .ref (Θ (1))), (1, .long p1), (3, .int p3)]) rfl (fun ls hl => ?_)
  refine lv_lload hx hb d_Co_blockOf_12 (lv_at hl 0 rfl) ?_
  refine lv_bipush (v := (16 : Int32)) hx hb d_Co_blockOf_14 (by decide) ?_
  refine lv_lushr (v := xlu x4 (16 : Int32)) hx hb d_Co_blockOf_16 rfl ?_
  refine lv_l2i (v := Int64.toInt32 (xlu x4 (16 : Int32))) hx hb d_Co_blockOf_17 rfl ?_
  refine lv_topi (fun x5 ex5 => ?_)
  have h := h x5 ex5
  refine lv_istore hx hb d_Co_blockOf_18 hl (Nat.le_of_ble_eq_true rfl) (lv' := [(6, .int x5), (4, .long x4), (0, .ref (Θ (1))), (1, .long p1), (3, .int p3)]) rfl (fun ls hl => ?_)
  refine lv_lload hx hb d_Co_blockOf_20 (lv_at hl 1 rfl) ?_
  refine lv_iload hx hb d_Co_blockOf_22 (lv_at hl 0 rfl) ?_
  refine x_gl (x_S C hP hS (c_Co_wordOf l D κ hΘ sz x5 I1 J2 _ h) q_Co_wordOf k_288 k_287 rfl rfl ⟨Nat.le_of_ble_eq_true rfl, Nat.le_of_ble_eq_true rfl⟩ rfl hl.1 rfl (Nat.le_of_ble_eq_true rfl) d_Co_blockOf_24) hS (fun r8 I6 J7 h H locs hP hS => ?_)
  refine W.lcmp hx hb d_Co_blockOf_27 ?_
  refine lv_if_ne hx hb d_Co_blockOf_28 (tgt := 36) rfl (fun hc9 => ?_) (fun hc9 => ?_)
  · have h := h.1 hc9
    refine lv_iconst (v := (-1 : Int32)) hx hb d_Co_blockOf_36 (by decide) ?_
    exact x_iret hx hb hr hlocks hP hS h d_Co_blockOf_37
  · have h := h.2 hc9
    refine lv_iload hx hb d_Co_blockOf_31 (lv_at hl 0 rfl) ?_
    refine lv_goto hx hb d_Co_blockOf_33 (tgt := 37) rfl ?_
    exact x_iret hx hb hr hlocks hP hS h d_Co_blockOf_37
