theorem d_Md_check_0 : decode b_Md_check 0 = .ok (.sipush (4095), 3) := by decide +kernel
theorem d_Md_check_3 : decode b_Md_check 3 = .ok (.istore_n 1, 1) := by decide +kernel
theorem d_Md_check_4 : decode b_Md_check 4 = .ok (.bipush (19), 2) := by decide +kernel
theorem d_Md_check_6 : decode b_Md_check 6 = .ok (.istore_n 2, 1) := by decide +kernel
theorem d_Md_check_7 : decode b_Md_check 7 = .ok (.iload_n 2, 1) := by decide +kernel
theorem d_Md_check_8 : decode b_Md_check 8 = .ok (.ifCond .lt (47), 3) := by decide +kernel
theorem d_Md_check_11 : decode b_Md_check 11 = .ok (.iload_n 1, 1) := by decide +kernel
theorem d_Md_check_12 : decode b_Md_check 12 = .ok (.bipush (11), 2) := by decide +kernel
theorem d_Md_check_14 : decode b_Md_check 14 = .ok (.ishr, 1) := by decide +kernel
theorem d_Md_check_15 : decode b_Md_check 15 = .ok (.iconst (1), 1) := by decide +kernel
theorem d_Md_check_16 : decode b_Md_check 16 = .ok (.iand, 1) := by decide +kernel
theorem d_Md_check_17 : decode b_Md_check 17 = .ok (.iload_n 0, 1) := by decide +kernel
theorem d_Md_check_18 : decode b_Md_check 18 = .ok (.iload_n 2, 1) := by decide +kernel
theorem d_Md_check_19 : decode b_Md_check 19 = .ok (.ishr, 1) := by decide +kernel
theorem d_Md_check_20 : decode b_Md_check 20 = .ok (.iconst (1), 1) := by decide +kernel
theorem d_Md_check_21 : decode b_Md_check 21 = .ok (.iand, 1) := by decide +kernel
theorem d_Md_check_22 : decode b_Md_check 22 = .ok (.if_icmp .eq (7), 3) := by decide +kernel
theorem d_Md_check_25 : decode b_Md_check 25 = .ok (.iconst (1), 1) := by decide +kernel
theorem d_Md_check_26 : decode b_Md_check 26 = .ok (.goto (4), 3) := by decide +kernel
theorem d_Md_check_29 : decode b_Md_check 29 = .ok (.iconst (0), 1) := by decide +kernel
theorem d_Md_check_30 : decode b_Md_check 30 = .ok (.istore_n 3, 1) := by decide +kernel
theorem d_Md_check_31 : decode b_Md_check 31 = .ok (.iload_n 1, 1) := by decide +kernel
theorem d_Md_check_32 : decode b_Md_check 32 = .ok (.iconst (1), 1) := by decide +kernel
theorem d_Md_check_33 : decode b_Md_check 33 = .ok (.ishl, 1) := by decide +kernel
theorem d_Md_check_34 : decode b_Md_check 34 = .ok (.sipush (4095), 3) := by decide +kernel
theorem d_Md_check_37 : decode b_Md_check 37 = .ok (.iand, 1) := by decide +kernel
theorem d_Md_check_38 : decode b_Md_check 38 = .ok (.istore_n 1, 1) := by decide +kernel
theorem d_Md_check_39 : decode b_Md_check 39 = .ok (.iload_n 3, 1) := by decide +kernel
theorem d_Md_check_40 : decode b_Md_check 40 = .ok (.ifCond .eq (9), 3) := by decide +kernel
theorem d_Md_check_43 : decode b_Md_check 43 = .ok (.iload_n 1, 1) := by decide +kernel
theorem d_Md_check_44 : decode b_Md_check 44 = .ok (.sipush (2063), 3) := by decide +kernel
theorem d_Md_check_47 : decode b_Md_check 47 = .ok (.ixor, 1) := by decide +kernel
theorem d_Md_check_48 : decode b_Md_check 48 = .ok (.istore_n 1, 1) := by decide +kernel
theorem d_Md_check_49 : decode b_Md_check 49 = .ok (.iinc 2 (-1), 3) := by decide +kernel
theorem d_Md_check_52 : decode b_Md_check 52 = .ok (.goto (-45), 3) := by decide +kernel
theorem d_Md_check_55 : decode b_Md_check 55 = .ok (.iload_n 1, 1) := by decide +kernel
theorem d_Md_check_56 : decode b_Md_check 56 = .ok (.ireturn, 1) := by decide +kernel
theorem d_Md_mix_0 : decode b_Md_mix 0 = .ok (.iload_n 0, 1) := by decide +kernel
theorem d_Md_mix_1 : decode b_Md_mix 1 = .ok (.istore_n 2, 1) := by decide +kernel
theorem d_Md_mix_2 : decode b_Md_mix 2 = .ok (.iconst (0), 1) := by decide +kernel
theorem d_Md_mix_3 : decode b_Md_mix 3 = .ok (.istore_n 3, 1) := by decide +kernel
theorem d_Md_mix_4 : decode b_Md_mix 4 = .ok (.iload_n 3, 1) := by decide +kernel
theorem d_Md_mix_5 : decode b_Md_mix 5 = .ok (.iconst (3), 1) := by decide +kernel
theorem d_Md_mix_6 : decode b_Md_mix 6 = .ok (.if_icmp .ge (20), 3) := by decide +kernel
theorem d_Md_mix_9 : decode b_Md_mix 9 = .ok (.iload_n 2, 1) := by decide +kernel
theorem d_Md_mix_10 : decode b_Md_mix 10 = .ok (.ldc 125, 2) := by decide +kernel
theorem d_Md_mix_12 : decode b_Md_mix 12 = .ok (.imul, 1) := by decide +kernel
theorem d_Md_mix_13 : decode b_Md_mix 13 = .ok (.iload_n 1, 1) := by decide +kernel
theorem d_Md_mix_14 : decode b_Md_mix 14 = .ok (.iadd, 1) := by decide +kernel
theorem d_Md_mix_15 : decode b_Md_mix 15 = .ok (.sipush (12345), 3) := by decide +kernel
theorem d_Md_mix_18 : decode b_Md_mix 18 = .ok (.iadd, 1) := by decide +kernel
theorem d_Md_mix_19 : decode b_Md_mix 19 = .ok (.istore_n 2, 1) := by decide +kernel
theorem d_Md_mix_20 : decode b_Md_mix 20 = .ok (.iinc 3 (1), 3) := by decide +kernel
theorem d_Md_mix_23 : decode b_Md_mix 23 = .ok (.goto (-19), 3) := by decide +kernel
theorem d_Md_mix_26 : decode b_Md_mix 26 = .ok (.iload_n 2, 1) := by decide +kernel
theorem d_Md_mix_27 : decode b_Md_mix 27 = .ok (.bipush (8), 2) := by decide +kernel
theorem d_Md_mix_29 : decode b_Md_mix 29 = .ok (.iushr, 1) := by decide +kernel
theorem d_Md_mix_30 : decode b_Md_mix 30 = .ok (.ldc 126, 2) := by decide +kernel
theorem d_Md_mix_32 : decode b_Md_mix 32 = .ok (.iand, 1) := by decide +kernel
theorem d_Md_mix_33 : decode b_Md_mix 33 = .ok (.ireturn, 1) := by decide +kernel
theorem d_Md_turns_0 : decode b_Md_turns 0 = .ok (.bipush (9), 2) := by decide +kernel
theorem d_Md_turns_2 : decode b_Md_turns 2 = .ok (.iload_n 0, 1) := by decide +kernel
theorem d_Md_turns_3 : decode b_Md_turns 3 = .ok (.imul, 1) := by decide +kernel
theorem d_Md_turns_4 : decode b_Md_turns 4 = .ok (.iconst (1), 1) := by decide +kernel
theorem d_Md_turns_5 : decode b_Md_turns 5 = .ok (.iadd, 1) := by decide +kernel
theorem d_Md_turns_6 : decode b_Md_turns 6 = .ok (.istore_n 1, 1) := by decide +kernel
theorem d_Md_turns_7 : decode b_Md_turns 7 = .ok (.lconst 0, 1) := by decide +kernel
theorem d_Md_turns_8 : decode b_Md_turns 8 = .ok (.lstore_n 2, 1) := by decide +kernel
theorem d_Md_turns_9 : decode b_Md_turns 9 = .ok (.iconst (0), 1) := by decide +kernel
theorem d_Md_turns_10 : decode b_Md_turns 10 = .ok (.istore 4, 2) := by decide +kernel
theorem d_Md_turns_12 : decode b_Md_turns 12 = .ok (.iload 4, 2) := by decide +kernel
theorem d_Md_turns_14 : decode b_Md_turns 14 = .ok (.bipush (54), 2) := by decide +kernel
theorem d_Md_turns_16 : decode b_Md_turns 16 = .ok (.if_icmp .ge (49), 3) := by decide +kernel
theorem d_Md_turns_19 : decode b_Md_turns 19 = .ok (.iload_n 1, 1) := by decide +kernel
theorem d_Md_turns_20 : decode b_Md_turns 20 = .ok (.iconst (1), 1) := by decide +kernel
theorem d_Md_turns_21 : decode b_Md_turns 21 = .ok (.iand, 1) := by decide +kernel
theorem d_Md_turns_22 : decode b_Md_turns 22 = .ok (.iconst (1), 1) := by decide +kernel
theorem d_Md_turns_23 : decode b_Md_turns 23 = .ok (.if_icmp .ne (10), 3) := by decide +kernel
theorem d_Md_turns_26 : decode b_Md_turns 26 = .ok (.lload_n 2, 1) := by decide +kernel
theorem d_Md_turns_27 : decode b_Md_turns 27 = .ok (.lconst 1, 1) := by decide +kernel
theorem d_Md_turns_28 : decode b_Md_turns 28 = .ok (.iload 4, 2) := by decide +kernel
theorem d_Md_turns_30 : decode b_Md_turns 30 = .ok (.lshl, 1) := by decide +kernel
theorem d_Md_turns_31 : decode b_Md_turns 31 = .ok (.lor, 1) := by decide +kernel
theorem d_Md_turns_32 : decode b_Md_turns 32 = .ok (.lstore_n 2, 1) := by decide +kernel
theorem d_Md_turns_33 : decode b_Md_turns 33 = .ok (.iload_n 1, 1) := by decide +kernel
theorem d_Md_turns_34 : decode b_Md_turns 34 = .ok (.iconst (1), 1) := by decide +kernel
theorem d_Md_turns_35 : decode b_Md_turns 35 = .ok (.iand, 1) := by decide +kernel
theorem d_Md_turns_36 : decode b_Md_turns 36 = .ok (.iload_n 1, 1) := by decide +kernel
theorem d_Md_turns_37 : decode b_Md_turns 37 = .ok (.iconst (3), 1) := by decide +kernel
theorem d_Md_turns_38 : decode b_Md_turns 38 = .ok (.ishr, 1) := by decide +kernel
theorem d_Md_turns_39 : decode b_Md_turns 39 = .ok (.iconst (1), 1) := by decide +kernel
theorem d_Md_turns_40 : decode b_Md_turns 40 = .ok (.iand, 1) := by decide +kernel
theorem d_Md_turns_41 : decode b_Md_turns 41 = .ok (.if_icmp .eq (8), 3) := by decide +kernel
theorem d_Md_turns_44 : decode b_Md_turns 44 = .ok (.bipush (64), 2) := by decide +kernel
theorem d_Md_turns_46 : decode b_Md_turns 46 = .ok (.goto (4), 3) := by decide +kernel
theorem d_Md_turns_49 : decode b_Md_turns 49 = .ok (.iconst (0), 1) := by decide +kernel
theorem d_Md_turns_50 : decode b_Md_turns 50 = .ok (.istore 5, 2) := by decide +kernel
theorem d_Md_turns_52 : decode b_Md_turns 52 = .ok (.iload_n 1, 1) := by decide +kernel
theorem d_Md_turns_53 : decode b_Md_turns 53 = .ok (.iconst (1), 1) := by decide +kernel
theorem d_Md_turns_54 : decode b_Md_turns 54 = .ok (.ishr, 1) := by decide +kernel
theorem d_Md_turns_55 : decode b_Md_turns 55 = .ok (.iload 5, 2) := by decide +kernel
theorem d_Md_turns_57 : decode b_Md_turns 57 = .ok (.iadd, 1) := by decide +kernel
theorem d_Md_turns_58 : decode b_Md_turns 58 = .ok (.istore_n 1, 1) := by decide +kernel
theorem d_Md_turns_59 : decode b_Md_turns 59 = .ok (.iinc 4 (1), 3) := by decide +kernel
theorem d_Md_turns_62 : decode b_Md_turns 62 = .ok (.goto (-50), 3) := by decide +kernel
theorem d_Md_turns_65 : decode b_Md_turns 65 = .ok (.lload_n 2, 1) := by decide +kernel
theorem d_Md_turns_66 : decode b_Md_turns 66 = .ok (.lreturn, 1) := by decide +kernel
theorem d_Md_sentFor_0 : decode b_Md_sentFor 0 = .ok (.iload_n 0, 1) := by decide +kernel
theorem d_Md_sentFor_1 : decode b_Md_sentFor 1 = .ok (.iconst (1), 1) := by decide +kernel
theorem d_Md_sentFor_2 : decode b_Md_sentFor 2 = .ok (.iand, 1) := by decide +kernel
theorem d_Md_sentFor_3 : decode b_Md_sentFor 3 = .ok (.istore_n 3, 1) := by decide +kernel
theorem d_Md_sentFor_4 : decode b_Md_sentFor 4 = .ok (.iload_n 0, 1) := by decide +kernel
theorem d_Md_sentFor_5 : decode b_Md_sentFor 5 = .ok (.iconst (1), 1) := by decide +kernel
theorem d_Md_sentFor_6 : decode b_Md_sentFor 6 = .ok (.ishr, 1) := by decide +kernel
theorem d_Md_sentFor_7 : decode b_Md_sentFor 7 = .ok (.iconst (1), 1) := by decide +kernel
theorem d_Md_sentFor_8 : decode b_Md_sentFor 8 = .ok (.iand, 1) := by decide +kernel
theorem d_Md_sentFor_9 : decode b_Md_sentFor 9 = .ok (.istore 4, 2) := by decide +kernel
theorem d_Md_sentFor_11 : decode b_Md_sentFor 11 = .ok (.iload_n 0, 1) := by decide +kernel
theorem d_Md_sentFor_12 : decode b_Md_sentFor 12 = .ok (.iconst (2), 1) := by decide +kernel
theorem d_Md_sentFor_13 : decode b_Md_sentFor 13 = .ok (.ishr, 1) := by decide +kernel
theorem d_Md_sentFor_14 : decode b_Md_sentFor 14 = .ok (.iconst (1), 1) := by decide +kernel
theorem d_Md_sentFor_15 : decode b_Md_sentFor 15 = .ok (.iand, 1) := by decide +kernel
theorem d_Md_sentFor_16 : decode b_Md_sentFor 16 = .ok (.istore 5, 2) := by decide +kernel
theorem d_Md_sentFor_18 : decode b_Md_sentFor 18 = .ok (.iload_n 0, 1) := by decide +kernel
theorem d_Md_sentFor_19 : decode b_Md_sentFor 19 = .ok (.iconst (3), 1) := by decide +kernel
theorem d_Md_sentFor_20 : decode b_Md_sentFor 20 = .ok (.ishr, 1) := by decide +kernel
theorem d_Md_sentFor_21 : decode b_Md_sentFor 21 = .ok (.istore 6, 2) := by decide +kernel
theorem d_Md_sentFor_23 : decode b_Md_sentFor 23 = .ok (.iload_n 2, 1) := by decide +kernel
theorem d_Md_sentFor_24 : decode b_Md_sentFor 24 = .ok (.ifCond .ne (13), 3) := by decide +kernel
theorem d_Md_sentFor_27 : decode b_Md_sentFor 27 = .ok (.iload_n 1, 1) := by decide +kernel
theorem d_Md_sentFor_28 : decode b_Md_sentFor 28 = .ok (.iload 5, 2) := by decide +kernel
theorem d_Md_sentFor_30 : decode b_Md_sentFor 30 = .ok (.ixor, 1) := by decide +kernel
theorem d_Md_sentFor_31 : decode b_Md_sentFor 31 = .ok (.iload 6, 2) := by decide +kernel
theorem d_Md_sentFor_33 : decode b_Md_sentFor 33 = .ok (.ixor, 1) := by decide +kernel
theorem d_Md_sentFor_34 : decode b_Md_sentFor 34 = .ok (.goto (12), 3) := by decide +kernel
theorem d_Md_sentFor_37 : decode b_Md_sentFor 37 = .ok (.iload_n 1, 1) := by decide +kernel
theorem d_Md_sentFor_38 : decode b_Md_sentFor 38 = .ok (.iload_n 3, 1) := by decide +kernel
theorem d_Md_sentFor_39 : decode b_Md_sentFor 39 = .ok (.ixor, 1) := by decide +kernel
theorem d_Md_sentFor_40 : decode b_Md_sentFor 40 = .ok (.iload 4, 2) := by decide +kernel
theorem d_Md_sentFor_42 : decode b_Md_sentFor 42 = .ok (.ixor, 1) := by decide +kernel
theorem d_Md_sentFor_43 : decode b_Md_sentFor 43 = .ok (.iload 6, 2) := by decide +kernel
theorem d_Md_sentFor_45 : decode b_Md_sentFor 45 = .ok (.ixor, 1) := by decide +kernel
theorem d_Md_sentFor_46 : decode b_Md_sentFor 46 = .ok (.ireturn, 1) := by decide +kernel
theorem d_Md_burstOf_0 : decode b_Md_burstOf 0 = .ok (.iload_n 0, 1) := by decide +kernel
theorem d_Md_burstOf_1 : decode b_Md_burstOf 1 = .ok (.i2l, 1) := by decide +kernel
theorem d_Md_burstOf_2 : decode b_Md_burstOf 2 = .ok (.bipush (16), 2) := by decide +kernel
theorem d_Md_burstOf_4 : decode b_Md_burstOf 4 = .ok (.lshl, 1) := by decide +kernel
theorem d_Md_burstOf_5 : decode b_Md_burstOf 5 = .ok (.iload_n 0, 1) := by decide +kernel
theorem d_Md_burstOf_6 : decode b_Md_burstOf 6 = .ok (.invokestatic 127, 3) := by decide +kernel
theorem d_Md_burstOf_9 : decode b_Md_burstOf 9 = .ok (.i2l, 1) := by decide +kernel
theorem d_Md_burstOf_10 : decode b_Md_burstOf 10 = .ok (.iconst (4), 1) := by decide +kernel
theorem d_Md_burstOf_11 : decode b_Md_burstOf 11 = .ok (.lshl, 1) := by decide +kernel
theorem d_Md_burstOf_12 : decode b_Md_burstOf 12 = .ok (.lor, 1) := by decide +kernel
theorem d_Md_burstOf_13 : decode b_Md_burstOf 13 = .ok (.lstore_n 2, 1) := by decide +kernel
theorem d_Md_burstOf_14 : decode b_Md_burstOf 14 = .ok (.iload_n 1, 1) := by decide +kernel
theorem d_Md_burstOf_15 : decode b_Md_burstOf 15 = .ok (.invokestatic 131, 3) := by decide +kernel
theorem d_Md_burstOf_18 : decode b_Md_burstOf 18 = .ok (.lstore 4, 2) := by decide +kernel
theorem d_Md_burstOf_20 : decode b_Md_burstOf 20 = .ok (.iconst (0), 1) := by decide +kernel
theorem d_Md_burstOf_21 : decode b_Md_burstOf 21 = .ok (.istore 6, 2) := by decide +kernel
theorem d_Md_burstOf_23 : decode b_Md_burstOf 23 = .ok (.iconst (0), 1) := by decide +kernel
theorem d_Md_burstOf_24 : decode b_Md_burstOf 24 = .ok (.istore 7, 2) := by decide +kernel
theorem d_Md_burstOf_26 : decode b_Md_burstOf 26 = .ok (.iconst (0), 1) := by decide +kernel
theorem d_Md_burstOf_27 : decode b_Md_burstOf 27 = .ok (.istore 8, 2) := by decide +kernel
theorem d_Md_burstOf_29 : decode b_Md_burstOf 29 = .ok (.iload 8, 2) := by decide +kernel
theorem d_Md_burstOf_31 : decode b_Md_burstOf 31 = .ok (.bipush (36), 2) := by decide +kernel
theorem d_Md_burstOf_33 : decode b_Md_burstOf 33 = .ok (.if_icmp .ge (96), 3) := by decide +kernel
theorem d_Md_burstOf_36 : decode b_Md_burstOf 36 = .ok (.lload_n 2, 1) := by decide +kernel
theorem d_Md_burstOf_37 : decode b_Md_burstOf 37 = .ok (.bipush (35), 2) := by decide +kernel
theorem d_Md_burstOf_39 : decode b_Md_burstOf 39 = .ok (.iload 8, 2) := by decide +kernel
theorem d_Md_burstOf_41 : decode b_Md_burstOf 41 = .ok (.isub, 1) := by decide +kernel
theorem d_Md_burstOf_42 : decode b_Md_burstOf 42 = .ok (.lshr, 1) := by decide +kernel
theorem d_Md_burstOf_43 : decode b_Md_burstOf 43 = .ok (.l2i, 1) := by decide +kernel
theorem d_Md_burstOf_44 : decode b_Md_burstOf 44 = .ok (.iconst (1), 1) := by decide +kernel
theorem d_Md_burstOf_45 : decode b_Md_burstOf 45 = .ok (.iand, 1) := by decide +kernel
theorem d_Md_burstOf_46 : decode b_Md_burstOf 46 = .ok (.istore 9, 2) := by decide +kernel
theorem d_Md_burstOf_48 : decode b_Md_burstOf 48 = .ok (.iconst (0), 1) := by decide +kernel
theorem d_Md_burstOf_49 : decode b_Md_burstOf 49 = .ok (.istore 10, 2) := by decide +kernel
theorem d_Md_burstOf_51 : decode b_Md_burstOf 51 = .ok (.iload 10, 2) := by decide +kernel
theorem d_Md_burstOf_53 : decode b_Md_burstOf 53 = .ok (.iconst (2), 1) := by decide +kernel
theorem d_Md_burstOf_54 : decode b_Md_burstOf 54 = .ok (.if_icmp .ge (57), 3) := by decide +kernel
theorem d_Md_burstOf_57 : decode b_Md_burstOf 57 = .ok (.iconst (2), 1) := by decide +kernel
theorem d_Md_burstOf_58 : decode b_Md_burstOf 58 = .ok (.iload 8, 2) := by decide +kernel
theorem d_Md_burstOf_60 : decode b_Md_burstOf 60 = .ok (.imul, 1) := by decide +kernel
theorem d_Md_burstOf_61 : decode b_Md_burstOf 61 = .ok (.iload 10, 2) := by decide +kernel
theorem d_Md_burstOf_63 : decode b_Md_burstOf 63 = .ok (.iadd, 1) := by decide +kernel
theorem d_Md_burstOf_64 : decode b_Md_burstOf 64 = .ok (.istore 11, 2) := by decide +kernel
theorem d_Md_burstOf_66 : decode b_Md_burstOf 66 = .ok (.iload 11, 2) := by decide +kernel
theorem d_Md_burstOf_68 : decode b_Md_burstOf 68 = .ok (.iconst (4), 1) := by decide +kernel
theorem d_Md_burstOf_69 : decode b_Md_burstOf 69 = .ok (.irem, 1) := by decide +kernel
theorem d_Md_burstOf_70 : decode b_Md_burstOf 70 = .ok (.iconst (3), 1) := by decide +kernel
theorem d_Md_burstOf_71 : decode b_Md_burstOf 71 = .ok (.if_icmp .eq (34), 3) := by decide +kernel
theorem d_Md_burstOf_74 : decode b_Md_burstOf 74 = .ok (.iload 6, 2) := by decide +kernel
theorem d_Md_burstOf_76 : decode b_Md_burstOf 76 = .ok (.iload 9, 2) := by decide +kernel
theorem d_Md_burstOf_78 : decode b_Md_burstOf 78 = .ok (.iload 10, 2) := by decide +kernel
theorem d_Md_burstOf_80 : decode b_Md_burstOf 80 = .ok (.invokestatic 135, 3) := by decide +kernel
theorem d_Md_burstOf_83 : decode b_Md_burstOf 83 = .ok (.iconst (1), 1) := by decide +kernel
theorem d_Md_burstOf_84 : decode b_Md_burstOf 84 = .ok (.if_icmp .ne (18), 3) := by decide +kernel
theorem d_Md_burstOf_87 : decode b_Md_burstOf 87 = .ok (.lload 4, 2) := by decide +kernel
theorem d_Md_burstOf_89 : decode b_Md_burstOf 89 = .ok (.lconst 1, 1) := by decide +kernel
theorem d_Md_burstOf_90 : decode b_Md_burstOf 90 = .ok (.bipush (17), 2) := by decide +kernel
theorem d_Md_burstOf_92 : decode b_Md_burstOf 92 = .ok (.iload 7, 2) := by decide +kernel
theorem d_Md_burstOf_94 : decode b_Md_burstOf 94 = .ok (.imul, 1) := by decide +kernel
theorem d_Md_burstOf_95 : decode b_Md_burstOf 95 = .ok (.bipush (54), 2) := by decide +kernel
theorem d_Md_burstOf_97 : decode b_Md_burstOf 97 = .ok (.irem, 1) := by decide +kernel
theorem d_Md_burstOf_98 : decode b_Md_burstOf 98 = .ok (.lshl, 1) := by decide +kernel
theorem d_Md_burstOf_99 : decode b_Md_burstOf 99 = .ok (.lxor, 1) := by decide +kernel
theorem d_Md_burstOf_100 : decode b_Md_burstOf 100 = .ok (.lstore 4, 2) := by decide +kernel
theorem d_Md_burstOf_102 : decode b_Md_burstOf 102 = .ok (.iinc 7 (1), 3) := by decide +kernel
theorem d_Md_burstOf_105 : decode b_Md_burstOf 105 = .ok (.iinc 10 (1), 3) := by decide +kernel
theorem d_Md_burstOf_108 : decode b_Md_burstOf 108 = .ok (.goto (-57), 3) := by decide +kernel
theorem d_Md_burstOf_111 : decode b_Md_burstOf 111 = .ok (.iload 6, 2) := by decide +kernel
theorem d_Md_burstOf_113 : decode b_Md_burstOf 113 = .ok (.iconst (1), 1) := by decide +kernel
theorem d_Md_burstOf_114 : decode b_Md_burstOf 114 = .ok (.ishl, 1) := by decide +kernel
theorem d_Md_burstOf_115 : decode b_Md_burstOf 115 = .ok (.iload 9, 2) := by decide +kernel
theorem d_Md_burstOf_117 : decode b_Md_burstOf 117 = .ok (.ior, 1) := by decide +kernel
theorem d_Md_burstOf_118 : decode b_Md_burstOf 118 = .ok (.bipush (15), 2) := by decide +kernel
theorem d_Md_burstOf_120 : decode b_Md_burstOf 120 = .ok (.iand, 1) := by decide +kernel
theorem d_Md_burstOf_121 : decode b_Md_burstOf 121 = .ok (.istore 6, 2) := by decide +kernel
theorem d_Md_burstOf_123 : decode b_Md_burstOf 123 = .ok (.iinc 8 (1), 3) := by decide +kernel
theorem d_Md_burstOf_126 : decode b_Md_burstOf 126 = .ok (.goto (-97), 3) := by decide +kernel
theorem d_Md_burstOf_129 : decode b_Md_burstOf 129 = .ok (.lload 4, 2) := by decide +kernel
theorem d_Md_burstOf_131 : decode b_Md_burstOf 131 = .ok (.lreturn, 1) := by decide +kernel
theorem d_Md_misses_0 : decode b_Md_misses 0 = .ok (.iconst (0), 1) := by decide +kernel
theorem d_Md_misses_1 : decode b_Md_misses 1 = .ok (.istore 4, 2) := by decide +kernel
theorem d_Md_misses_3 : decode b_Md_misses 3 = .ok (.iconst (0), 1) := by decide +kernel
theorem d_Md_misses_4 : decode b_Md_misses 4 = .ok (.istore 5, 2) := by decide +kernel
theorem d_Md_misses_6 : decode b_Md_misses 6 = .ok (.iload 5, 2) := by decide +kernel
theorem d_Md_misses_8 : decode b_Md_misses 8 = .ok (.iconst (2), 1) := by decide +kernel
theorem d_Md_misses_9 : decode b_Md_misses 9 = .ok (.if_icmp .ge (47), 3) := by decide +kernel
theorem d_Md_misses_12 : decode b_Md_misses 12 = .ok (.aload_n 0, 1) := by decide +kernel
theorem d_Md_misses_13 : decode b_Md_misses 13 = .ok (.getfield 13, 3) := by decide +kernel
theorem d_Md_misses_16 : decode b_Md_misses 16 = .ok (.iconst (2), 1) := by decide +kernel
theorem d_Md_misses_17 : decode b_Md_misses 17 = .ok (.iload_n 1, 1) := by decide +kernel
theorem d_Md_misses_18 : decode b_Md_misses 18 = .ok (.imul, 1) := by decide +kernel
theorem d_Md_misses_19 : decode b_Md_misses 19 = .ok (.iload 5, 2) := by decide +kernel
theorem d_Md_misses_21 : decode b_Md_misses 21 = .ok (.iadd, 1) := by decide +kernel
theorem d_Md_misses_22 : decode b_Md_misses 22 = .ok (.iaload, 1) := by decide +kernel
theorem d_Md_misses_23 : decode b_Md_misses 23 = .ok (.ifCond .lt (27), 3) := by decide +kernel
theorem d_Md_misses_26 : decode b_Md_misses 26 = .ok (.aload_n 0, 1) := by decide +kernel
theorem d_Md_misses_27 : decode b_Md_misses 27 = .ok (.getfield 13, 3) := by decide +kernel
theorem d_Md_misses_30 : decode b_Md_misses 30 = .ok (.iconst (2), 1) := by decide +kernel
theorem d_Md_misses_31 : decode b_Md_misses 31 = .ok (.iload_n 1, 1) := by decide +kernel
theorem d_Md_misses_32 : decode b_Md_misses 32 = .ok (.imul, 1) := by decide +kernel
theorem d_Md_misses_33 : decode b_Md_misses 33 = .ok (.iload 5, 2) := by decide +kernel
theorem d_Md_misses_35 : decode b_Md_misses 35 = .ok (.iadd, 1) := by decide +kernel
theorem d_Md_misses_36 : decode b_Md_misses 36 = .ok (.iaload, 1) := by decide +kernel
theorem d_Md_misses_37 : decode b_Md_misses 37 = .ok (.iload_n 2, 1) := by decide +kernel
theorem d_Md_misses_38 : decode b_Md_misses 38 = .ok (.iload_n 3, 1) := by decide +kernel
theorem d_Md_misses_39 : decode b_Md_misses 39 = .ok (.iload 5, 2) := by decide +kernel
theorem d_Md_misses_41 : decode b_Md_misses 41 = .ok (.invokestatic 135, 3) := by decide +kernel
theorem d_Md_misses_44 : decode b_Md_misses 44 = .ok (.if_icmp .eq (6), 3) := by decide +kernel
theorem d_Md_misses_47 : decode b_Md_misses 47 = .ok (.iinc 4 (1), 3) := by decide +kernel
theorem d_Md_misses_50 : decode b_Md_misses 50 = .ok (.iinc 5 (1), 3) := by decide +kernel
theorem d_Md_misses_53 : decode b_Md_misses 53 = .ok (.goto (-47), 3) := by decide +kernel
theorem d_Md_misses_56 : decode b_Md_misses 56 = .ok (.iload 4, 2) := by decide +kernel
theorem d_Md_misses_58 : decode b_Md_misses 58 = .ok (.ireturn, 1) := by decide +kernel
theorem d_Md_nearest_0 : decode b_Md_nearest 0 = .ok (.lload_n 1, 1) := by decide +kernel
theorem d_Md_nearest_1 : decode b_Md_nearest 1 = .ok (.iload_n 3, 1) := by decide +kernel
theorem d_Md_nearest_2 : decode b_Md_nearest 2 = .ok (.invokestatic 131, 3) := by decide +kernel
theorem d_Md_nearest_5 : decode b_Md_nearest 5 = .ok (.lxor, 1) := by decide +kernel
theorem d_Md_nearest_6 : decode b_Md_nearest 6 = .ok (.lstore 4, 2) := by decide +kernel
theorem d_Md_nearest_8 : decode b_Md_nearest 8 = .ok (.iconst (0), 1) := by decide +kernel
theorem d_Md_nearest_9 : decode b_Md_nearest 9 = .ok (.istore 6, 2) := by decide +kernel
theorem d_Md_nearest_11 : decode b_Md_nearest 11 = .ok (.iconst (0), 1) := by decide +kernel
theorem d_Md_nearest_12 : decode b_Md_nearest 12 = .ok (.istore 7, 2) := by decide +kernel
theorem d_Md_nearest_14 : decode b_Md_nearest 14 = .ok (.iload 7, 2) := by decide +kernel
theorem d_Md_nearest_16 : decode b_Md_nearest 16 = .ok (.bipush (72), 2) := by decide +kernel
theorem d_Md_nearest_18 : decode b_Md_nearest 18 = .ok (.if_icmp .ge (49), 3) := by decide +kernel
theorem d_Md_nearest_21 : decode b_Md_nearest 21 = .ok (.aload_n 0, 1) := by decide +kernel
theorem d_Md_nearest_22 : decode b_Md_nearest 22 = .ok (.getfield 13, 3) := by decide +kernel
theorem d_Md_nearest_25 : decode b_Md_nearest 25 = .ok (.iload 7, 2) := by decide +kernel
theorem d_Md_nearest_27 : decode b_Md_nearest 27 = .ok (.iconst (-1), 1) := by decide +kernel
theorem d_Md_nearest_28 : decode b_Md_nearest 28 = .ok (.iastore, 1) := by decide +kernel
theorem d_Md_nearest_29 : decode b_Md_nearest 29 = .ok (.iload 7, 2) := by decide +kernel
theorem d_Md_nearest_31 : decode b_Md_nearest 31 = .ok (.iconst (4), 1) := by decide +kernel
theorem d_Md_nearest_32 : decode b_Md_nearest 32 = .ok (.irem, 1) := by decide +kernel
theorem d_Md_nearest_33 : decode b_Md_nearest 33 = .ok (.iconst (3), 1) := by decide +kernel
theorem d_Md_nearest_34 : decode b_Md_nearest 34 = .ok (.if_icmp .eq (27), 3) := by decide +kernel
theorem d_Md_nearest_37 : decode b_Md_nearest 37 = .ok (.aload_n 0, 1) := by decide +kernel
theorem d_Md_nearest_38 : decode b_Md_nearest 38 = .ok (.getfield 13, 3) := by decide +kernel
theorem d_Md_nearest_41 : decode b_Md_nearest 41 = .ok (.iload 7, 2) := by decide +kernel
theorem d_Md_nearest_43 : decode b_Md_nearest 43 = .ok (.lload 4, 2) := by decide +kernel
theorem d_Md_nearest_45 : decode b_Md_nearest 45 = .ok (.bipush (17), 2) := by decide +kernel
theorem d_Md_nearest_47 : decode b_Md_nearest 47 = .ok (.iload 6, 2) := by decide +kernel
theorem d_Md_nearest_49 : decode b_Md_nearest 49 = .ok (.imul, 1) := by decide +kernel
theorem d_Md_nearest_50 : decode b_Md_nearest 50 = .ok (.bipush (54), 2) := by decide +kernel
theorem d_Md_nearest_52 : decode b_Md_nearest 52 = .ok (.irem, 1) := by decide +kernel
theorem d_Md_nearest_53 : decode b_Md_nearest 53 = .ok (.lshr, 1) := by decide +kernel
theorem d_Md_nearest_54 : decode b_Md_nearest 54 = .ok (.l2i, 1) := by decide +kernel
theorem d_Md_nearest_55 : decode b_Md_nearest 55 = .ok (.iconst (1), 1) := by decide +kernel
theorem d_Md_nearest_56 : decode b_Md_nearest 56 = .ok (.iand, 1) := by decide +kernel
theorem d_Md_nearest_57 : decode b_Md_nearest 57 = .ok (.iastore, 1) := by decide +kernel
theorem d_Md_nearest_58 : decode b_Md_nearest 58 = .ok (.iinc 6 (1), 3) := by decide +kernel
theorem d_Md_nearest_61 : decode b_Md_nearest 61 = .ok (.iinc 7 (1), 3) := by decide +kernel
theorem d_Md_nearest_64 : decode b_Md_nearest 64 = .ok (.goto (-50), 3) := by decide +kernel
theorem d_Md_nearest_67 : decode b_Md_nearest 67 = .ok (.iconst (0), 1) := by decide +kernel
theorem d_Md_nearest_68 : decode b_Md_nearest 68 = .ok (.istore 7, 2) := by decide +kernel
theorem d_Md_nearest_70 : decode b_Md_nearest 70 = .ok (.iload 7, 2) := by decide +kernel
theorem d_Md_nearest_72 : decode b_Md_nearest 72 = .ok (.bipush (16), 2) := by decide +kernel
theorem d_Md_nearest_74 : decode b_Md_nearest 74 = .ok (.if_icmp .ge (21), 3) := by decide +kernel
theorem d_Md_nearest_77 : decode b_Md_nearest 77 = .ok (.aload_n 0, 1) := by decide +kernel
theorem d_Md_nearest_78 : decode b_Md_nearest 78 = .ok (.getfield 17, 3) := by decide +kernel
theorem d_Md_nearest_81 : decode b_Md_nearest 81 = .ok (.sipush (576), 3) := by decide +kernel
theorem d_Md_nearest_84 : decode b_Md_nearest 84 = .ok (.iload 7, 2) := by decide +kernel
theorem d_Md_nearest_86 : decode b_Md_nearest 86 = .ok (.iadd, 1) := by decide +kernel
theorem d_Md_nearest_87 : decode b_Md_nearest 87 = .ok (.iconst (0), 1) := by decide +kernel
theorem d_Md_nearest_88 : decode b_Md_nearest 88 = .ok (.iastore, 1) := by decide +kernel
theorem d_Md_nearest_89 : decode b_Md_nearest 89 = .ok (.iinc 7 (1), 3) := by decide +kernel
theorem d_Md_nearest_92 : decode b_Md_nearest 92 = .ok (.goto (-22), 3) := by decide +kernel
theorem d_Md_nearest_95 : decode b_Md_nearest 95 = .ok (.bipush (35), 2) := by decide +kernel
theorem d_Md_nearest_97 : decode b_Md_nearest 97 = .ok (.istore 7, 2) := by decide +kernel
theorem d_Md_nearest_99 : decode b_Md_nearest 99 = .ok (.iload 7, 2) := by decide +kernel
theorem d_Md_nearest_101 : decode b_Md_nearest 101 = .ok (.ifCond .lt (133), 3) := by decide +kernel
theorem d_Md_nearest_104 : decode b_Md_nearest 104 = .ok (.iconst (0), 1) := by decide +kernel
theorem d_Md_nearest_105 : decode b_Md_nearest 105 = .ok (.istore 8, 2) := by decide +kernel
theorem d_Md_nearest_107 : decode b_Md_nearest 107 = .ok (.iload 8, 2) := by decide +kernel
theorem d_Md_nearest_109 : decode b_Md_nearest 109 = .ok (.bipush (16), 2) := by decide +kernel
theorem d_Md_nearest_111 : decode b_Md_nearest 111 = .ok (.if_icmp .ge (117), 3) := by decide +kernel
theorem d_Md_nearest_114 : decode b_Md_nearest 114 = .ok (.aload_n 0, 1) := by decide +kernel
theorem d_Md_nearest_115 : decode b_Md_nearest 115 = .ok (.iload 7, 2) := by decide +kernel
theorem d_Md_nearest_117 : decode b_Md_nearest 117 = .ok (.iload 8, 2) := by decide +kernel
theorem d_Md_nearest_119 : decode b_Md_nearest 119 = .ok (.iconst (0), 1) := by decide +kernel
theorem d_Md_nearest_120 : decode b_Md_nearest 120 = .ok (.invokevirtual 139, 3) := by decide +kernel
theorem d_Md_nearest_123 : decode b_Md_nearest 123 = .ok (.aload_n 0, 1) := by decide +kernel
theorem d_Md_nearest_124 : decode b_Md_nearest 124 = .ok (.getfield 17, 3) := by decide +kernel
theorem d_Md_nearest_127 : decode b_Md_nearest 127 = .ok (.bipush (16), 2) := by decide +kernel
theorem d_Md_nearest_129 : decode b_Md_nearest 129 = .ok (.iload 7, 2) := by decide +kernel
theorem d_Md_nearest_131 : decode b_Md_nearest 131 = .ok (.imul, 1) := by decide +kernel
theorem d_Md_nearest_132 : decode b_Md_nearest 132 = .ok (.bipush (16), 2) := by decide +kernel
theorem d_Md_nearest_134 : decode b_Md_nearest 134 = .ok (.iadd, 1) := by decide +kernel
theorem d_Md_nearest_135 : decode b_Md_nearest 135 = .ok (.iload 8, 2) := by decide +kernel
theorem d_Md_nearest_137 : decode b_Md_nearest 137 = .ok (.iconst (1), 1) := by decide +kernel
theorem d_Md_nearest_138 : decode b_Md_nearest 138 = .ok (.ishl, 1) := by decide +kernel
theorem d_Md_nearest_139 : decode b_Md_nearest 139 = .ok (.bipush (15), 2) := by decide +kernel
theorem d_Md_nearest_141 : decode b_Md_nearest 141 = .ok (.iand, 1) := by decide +kernel
theorem d_Md_nearest_142 : decode b_Md_nearest 142 = .ok (.iadd, 1) := by decide +kernel
theorem d_Md_nearest_143 : decode b_Md_nearest 143 = .ok (.iaload, 1) := by decide +kernel
theorem d_Md_nearest_144 : decode b_Md_nearest 144 = .ok (.iadd, 1) := by decide +kernel
theorem d_Md_nearest_145 : decode b_Md_nearest 145 = .ok (.istore 9, 2) := by decide +kernel
theorem d_Md_nearest_147 : decode b_Md_nearest 147 = .ok (.iload 7, 2) := by decide +kernel
theorem d_Md_nearest_149 : decode b_Md_nearest 149 = .ok (.bipush (32), 2) := by decide +kernel
theorem d_Md_nearest_151 : decode b_Md_nearest 151 = .ok (.if_icmp .ge (39), 3) := by decide +kernel
theorem d_Md_nearest_154 : decode b_Md_nearest 154 = .ok (.aload_n 0, 1) := by decide +kernel
theorem d_Md_nearest_155 : decode b_Md_nearest 155 = .ok (.iload 7, 2) := by decide +kernel
theorem d_Md_nearest_157 : decode b_Md_nearest 157 = .ok (.iload 8, 2) := by decide +kernel
theorem d_Md_nearest_159 : decode b_Md_nearest 159 = .ok (.iconst (1), 1) := by decide +kernel
theorem d_Md_nearest_160 : decode b_Md_nearest 160 = .ok (.invokevirtual 139, 3) := by decide +kernel
theorem d_Md_nearest_163 : decode b_Md_nearest 163 = .ok (.aload_n 0, 1) := by decide +kernel
theorem d_Md_nearest_164 : decode b_Md_nearest 164 = .ok (.getfield 17, 3) := by decide +kernel
theorem d_Md_nearest_167 : decode b_Md_nearest 167 = .ok (.bipush (16), 2) := by decide +kernel
theorem d_Md_nearest_169 : decode b_Md_nearest 169 = .ok (.iload 7, 2) := by decide +kernel
theorem d_Md_nearest_171 : decode b_Md_nearest 171 = .ok (.imul, 1) := by decide +kernel
theorem d_Md_nearest_172 : decode b_Md_nearest 172 = .ok (.bipush (16), 2) := by decide +kernel
theorem d_Md_nearest_174 : decode b_Md_nearest 174 = .ok (.iadd, 1) := by decide +kernel
theorem d_Md_nearest_175 : decode b_Md_nearest 175 = .ok (.iload 8, 2) := by decide +kernel
theorem d_Md_nearest_177 : decode b_Md_nearest 177 = .ok (.iconst (1), 1) := by decide +kernel
theorem d_Md_nearest_178 : decode b_Md_nearest 178 = .ok (.ishl, 1) := by decide +kernel
theorem d_Md_nearest_179 : decode b_Md_nearest 179 = .ok (.bipush (15), 2) := by decide +kernel
theorem d_Md_nearest_181 : decode b_Md_nearest 181 = .ok (.iand, 1) := by decide +kernel
theorem d_Md_nearest_182 : decode b_Md_nearest 182 = .ok (.iconst (1), 1) := by decide +kernel
theorem d_Md_nearest_183 : decode b_Md_nearest 183 = .ok (.ior, 1) := by decide +kernel
theorem d_Md_nearest_184 : decode b_Md_nearest 184 = .ok (.iadd, 1) := by decide +kernel
theorem d_Md_nearest_185 : decode b_Md_nearest 185 = .ok (.iaload, 1) := by decide +kernel
theorem d_Md_nearest_186 : decode b_Md_nearest 186 = .ok (.iadd, 1) := by decide +kernel
theorem d_Md_nearest_187 : decode b_Md_nearest 187 = .ok (.goto (6), 3) := by decide +kernel
theorem d_Md_nearest_190 : decode b_Md_nearest 190 = .ok (.sipush (1000), 3) := by decide +kernel
theorem d_Md_nearest_193 : decode b_Md_nearest 193 = .ok (.istore 10, 2) := by decide +kernel
theorem d_Md_nearest_195 : decode b_Md_nearest 195 = .ok (.aload_n 0, 1) := by decide +kernel
theorem d_Md_nearest_196 : decode b_Md_nearest 196 = .ok (.getfield 17, 3) := by decide +kernel
theorem d_Md_nearest_199 : decode b_Md_nearest 199 = .ok (.bipush (16), 2) := by decide +kernel
theorem d_Md_nearest_201 : decode b_Md_nearest 201 = .ok (.iload 7, 2) := by decide +kernel
theorem d_Md_nearest_203 : decode b_Md_nearest 203 = .ok (.imul, 1) := by decide +kernel
theorem d_Md_nearest_204 : decode b_Md_nearest 204 = .ok (.iload 8, 2) := by decide +kernel
theorem d_Md_nearest_206 : decode b_Md_nearest 206 = .ok (.iadd, 1) := by decide +kernel
theorem d_Md_nearest_207 : decode b_Md_nearest 207 = .ok (.iload 9, 2) := by decide +kernel
theorem d_Md_nearest_209 : decode b_Md_nearest 209 = .ok (.iload 10, 2) := by decide +kernel
theorem d_Md_nearest_211 : decode b_Md_nearest 211 = .ok (.if_icmp .gt (8), 3) := by decide +kernel
theorem d_Md_nearest_214 : decode b_Md_nearest 214 = .ok (.iload 9, 2) := by decide +kernel
theorem d_Md_nearest_216 : decode b_Md_nearest 216 = .ok (.goto (5), 3) := by decide +kernel
theorem d_Md_nearest_219 : decode b_Md_nearest 219 = .ok (.iload 10, 2) := by decide +kernel
theorem d_Md_nearest_221 : decode b_Md_nearest 221 = .ok (.iastore, 1) := by decide +kernel
theorem d_Md_nearest_222 : decode b_Md_nearest 222 = .ok (.iinc 8 (1), 3) := by decide +kernel
theorem d_Md_nearest_225 : decode b_Md_nearest 225 = .ok (.goto (-118), 3) := by decide +kernel
theorem d_Md_nearest_228 : decode b_Md_nearest 228 = .ok (.iinc 7 (-1), 3) := by decide +kernel
theorem d_Md_nearest_231 : decode b_Md_nearest 231 = .ok (.goto (-132), 3) := by decide +kernel
theorem d_Md_nearest_234 : decode b_Md_nearest 234 = .ok (.aload_n 0, 1) := by decide +kernel
theorem d_Md_nearest_235 : decode b_Md_nearest 235 = .ok (.aload_n 0, 1) := by decide +kernel
theorem d_Md_nearest_236 : decode b_Md_nearest 236 = .ok (.getfield 17, 3) := by decide +kernel
theorem d_Md_nearest_239 : decode b_Md_nearest 239 = .ok (.iconst (0), 1) := by decide +kernel
theorem d_Md_nearest_240 : decode b_Md_nearest 240 = .ok (.iaload, 1) := by decide +kernel
theorem d_Md_nearest_241 : decode b_Md_nearest 241 = .ok (.putfield 24, 3) := by decide +kernel
theorem d_Md_nearest_244 : decode b_Md_nearest 244 = .ok (.aload_n 0, 1) := by decide +kernel
theorem d_Md_nearest_245 : decode b_Md_nearest 245 = .ok (.lconst 0, 1) := by decide +kernel
theorem d_Md_nearest_246 : decode b_Md_nearest 246 = .ok (.putfield 20, 3) := by decide +kernel
theorem d_Md_nearest_249 : decode b_Md_nearest 249 = .ok (.iconst (0), 1) := by decide +kernel
theorem d_Md_nearest_250 : decode b_Md_nearest 250 = .ok (.istore 7, 2) := by decide +kernel
theorem d_Md_nearest_252 : decode b_Md_nearest 252 = .ok (.iconst (0), 1) := by decide +kernel
theorem d_Md_nearest_253 : decode b_Md_nearest 253 = .ok (.istore 8, 2) := by decide +kernel
theorem d_Md_nearest_255 : decode b_Md_nearest 255 = .ok (.iload 8, 2) := by decide +kernel
theorem d_Md_nearest_257 : decode b_Md_nearest 257 = .ok (.bipush (36), 2) := by decide +kernel
theorem d_Md_nearest_259 : decode b_Md_nearest 259 = .ok (.if_icmp .ge (93), 3) := by decide +kernel
theorem d_Md_nearest_262 : decode b_Md_nearest 262 = .ok (.aload_n 0, 1) := by decide +kernel
theorem d_Md_nearest_263 : decode b_Md_nearest 263 = .ok (.iload 8, 2) := by decide +kernel
theorem d_Md_nearest_265 : decode b_Md_nearest 265 = .ok (.iload 7, 2) := by decide +kernel
theorem d_Md_nearest_267 : decode b_Md_nearest 267 = .ok (.iconst (0), 1) := by decide +kernel
theorem d_Md_nearest_268 : decode b_Md_nearest 268 = .ok (.invokevirtual 139, 3) := by decide +kernel
theorem d_Md_nearest_271 : decode b_Md_nearest 271 = .ok (.aload_n 0, 1) := by decide +kernel
theorem d_Md_nearest_272 : decode b_Md_nearest 272 = .ok (.getfield 17, 3) := by decide +kernel
theorem d_Md_nearest_275 : decode b_Md_nearest 275 = .ok (.bipush (16), 2) := by decide +kernel
theorem d_Md_nearest_277 : decode b_Md_nearest 277 = .ok (.iload 8, 2) := by decide +kernel
theorem d_Md_nearest_279 : decode b_Md_nearest 279 = .ok (.imul, 1) := by decide +kernel
theorem d_Md_nearest_280 : decode b_Md_nearest 280 = .ok (.bipush (16), 2) := by decide +kernel
theorem d_Md_nearest_282 : decode b_Md_nearest 282 = .ok (.iadd, 1) := by decide +kernel
theorem d_Md_nearest_283 : decode b_Md_nearest 283 = .ok (.iload 7, 2) := by decide +kernel
theorem d_Md_nearest_285 : decode b_Md_nearest 285 = .ok (.iconst (1), 1) := by decide +kernel
theorem d_Md_nearest_286 : decode b_Md_nearest 286 = .ok (.ishl, 1) := by decide +kernel
theorem d_Md_nearest_287 : decode b_Md_nearest 287 = .ok (.bipush (15), 2) := by decide +kernel
theorem d_Md_nearest_289 : decode b_Md_nearest 289 = .ok (.iand, 1) := by decide +kernel
theorem d_Md_nearest_290 : decode b_Md_nearest 290 = .ok (.iadd, 1) := by decide +kernel
theorem d_Md_nearest_291 : decode b_Md_nearest 291 = .ok (.iaload, 1) := by decide +kernel
theorem d_Md_nearest_292 : decode b_Md_nearest 292 = .ok (.iadd, 1) := by decide +kernel
theorem d_Md_nearest_293 : decode b_Md_nearest 293 = .ok (.istore 9, 2) := by decide +kernel
theorem d_Md_nearest_295 : decode b_Md_nearest 295 = .ok (.iload 9, 2) := by decide +kernel
theorem d_Md_nearest_297 : decode b_Md_nearest 297 = .ok (.aload_n 0, 1) := by decide +kernel
theorem d_Md_nearest_298 : decode b_Md_nearest 298 = .ok (.getfield 17, 3) := by decide +kernel
theorem d_Md_nearest_301 : decode b_Md_nearest 301 = .ok (.bipush (16), 2) := by decide +kernel
theorem d_Md_nearest_303 : decode b_Md_nearest 303 = .ok (.iload 8, 2) := by decide +kernel
theorem d_Md_nearest_305 : decode b_Md_nearest 305 = .ok (.imul, 1) := by decide +kernel
theorem d_Md_nearest_306 : decode b_Md_nearest 306 = .ok (.iload 7, 2) := by decide +kernel
theorem d_Md_nearest_308 : decode b_Md_nearest 308 = .ok (.iadd, 1) := by decide +kernel
theorem d_Md_nearest_309 : decode b_Md_nearest 309 = .ok (.iaload, 1) := by decide +kernel
theorem d_Md_nearest_310 : decode b_Md_nearest 310 = .ok (.if_icmp .ne (7), 3) := by decide +kernel
theorem d_Md_nearest_313 : decode b_Md_nearest 313 = .ok (.iconst (0), 1) := by decide +kernel
theorem d_Md_nearest_314 : decode b_Md_nearest 314 = .ok (.goto (4), 3) := by decide +kernel
theorem d_Md_nearest_317 : decode b_Md_nearest 317 = .ok (.iconst (1), 1) := by decide +kernel
theorem d_Md_nearest_318 : decode b_Md_nearest 318 = .ok (.istore 10, 2) := by decide +kernel
theorem d_Md_nearest_320 : decode b_Md_nearest 320 = .ok (.aload_n 0, 1) := by decide +kernel
theorem d_Md_nearest_321 : decode b_Md_nearest 321 = .ok (.aload_n 0, 1) := by decide +kernel
theorem d_Md_nearest_322 : decode b_Md_nearest 322 = .ok (.getfield 20, 3) := by decide +kernel
theorem d_Md_nearest_325 : decode b_Md_nearest 325 = .ok (.iconst (1), 1) := by decide +kernel
theorem d_Md_nearest_326 : decode b_Md_nearest 326 = .ok (.lshl, 1) := by decide +kernel
theorem d_Md_nearest_327 : decode b_Md_nearest 327 = .ok (.iload 10, 2) := by decide +kernel
theorem d_Md_nearest_329 : decode b_Md_nearest 329 = .ok (.i2l, 1) := by decide +kernel
theorem d_Md_nearest_330 : decode b_Md_nearest 330 = .ok (.lor, 1) := by decide +kernel
theorem d_Md_nearest_331 : decode b_Md_nearest 331 = .ok (.putfield 20, 3) := by decide +kernel
theorem d_Md_nearest_334 : decode b_Md_nearest 334 = .ok (.iload 7, 2) := by decide +kernel
theorem d_Md_nearest_336 : decode b_Md_nearest 336 = .ok (.iconst (1), 1) := by decide +kernel
theorem d_Md_nearest_337 : decode b_Md_nearest 337 = .ok (.ishl, 1) := by decide +kernel
theorem d_Md_nearest_338 : decode b_Md_nearest 338 = .ok (.iload 10, 2) := by decide +kernel
theorem d_Md_nearest_340 : decode b_Md_nearest 340 = .ok (.ior, 1) := by decide +kernel
theorem d_Md_nearest_341 : decode b_Md_nearest 341 = .ok (.bipush (15), 2) := by decide +kernel
theorem d_Md_nearest_343 : decode b_Md_nearest 343 = .ok (.iand, 1) := by decide +kernel
theorem d_Md_nearest_344 : decode b_Md_nearest 344 = .ok (.istore 7, 2) := by decide +kernel
theorem d_Md_nearest_346 : decode b_Md_nearest 346 = .ok (.iinc 8 (1), 3) := by decide +kernel
theorem d_Md_nearest_349 : decode b_Md_nearest 349 = .ok (.goto (-94), 3) := by decide +kernel
theorem d_Md_nearest_352 : decode b_Md_nearest 352 = .ok (.return_, 1) := by decide +kernel
theorem d_Md_blockOf_0 : decode b_Md_blockOf 0 = .ok (.aload_n 0, 1) := by decide +kernel
theorem d_Md_blockOf_1 : decode b_Md_blockOf 1 = .ok (.lload_n 1, 1) := by decide +kernel
theorem d_Md_blockOf_2 : decode b_Md_blockOf 2 = .ok (.iload_n 3, 1) := by decide +kernel
theorem d_Md_blockOf_3 : decode b_Md_blockOf 3 = .ok (.invokevirtual 142, 3) := by decide +kernel
theorem d_Md_blockOf_6 : decode b_Md_blockOf 6 = .ok (.aload_n 0, 1) := by decide +kernel
theorem d_Md_blockOf_7 : decode b_Md_blockOf 7 = .ok (.getfield 20, 3) := by decide +kernel
theorem d_Md_blockOf_10 : decode b_Md_blockOf 10 = .ok (.bipush (16), 2) := by decide +kernel
theorem d_Md_blockOf_12 : decode b_Md_blockOf 12 = .ok (.lshr, 1) := by decide +kernel
theorem d_Md_blockOf_13 : decode b_Md_blockOf 13 = .ok (.l2i, 1) := by decide +kernel
theorem d_Md_blockOf_14 : decode b_Md_blockOf 14 = .ok (.istore 4, 2) := by decide +kernel
theorem d_Md_blockOf_16 : decode b_Md_blockOf 16 = .ok (.aload_n 0, 1) := by decide +kernel
theorem d_Md_blockOf_17 : decode b_Md_blockOf 17 = .ok (.getfield 20, 3) := by decide +kernel
theorem d_Md_blockOf_20 : decode b_Md_blockOf 20 = .ok (.iconst (4), 1) := by decide +kernel
theorem d_Md_blockOf_21 : decode b_Md_blockOf 21 = .ok (.lshr, 1) := by decide +kernel
theorem d_Md_blockOf_22 : decode b_Md_blockOf 22 = .ok (.l2i, 1) := by decide +kernel
theorem d_Md_blockOf_23 : decode b_Md_blockOf 23 = .ok (.sipush (4095), 3) := by decide +kernel
theorem d_Md_blockOf_26 : decode b_Md_blockOf 26 = .ok (.iand, 1) := by decide +kernel
theorem d_Md_blockOf_27 : decode b_Md_blockOf 27 = .ok (.iload 4, 2) := by decide +kernel
theorem d_Md_blockOf_29 : decode b_Md_blockOf 29 = .ok (.invokestatic 127, 3) := by decide +kernel
theorem d_Md_blockOf_32 : decode b_Md_blockOf 32 = .ok (.if_icmp .ne (8), 3) := by decide +kernel
theorem d_Md_blockOf_35 : decode b_Md_blockOf 35 = .ok (.iload 4, 2) := by decide +kernel
theorem d_Md_blockOf_37 : decode b_Md_blockOf 37 = .ok (.goto (4), 3) := by decide +kernel
theorem d_Md_blockOf_40 : decode b_Md_blockOf 40 = .ok (.iconst (-1), 1) := by decide +kernel
theorem d_Md_blockOf_41 : decode b_Md_blockOf 41 = .ok (.ireturn, 1) := by decide +kernel
theorem d_Md_gets_0 : decode b_Md_gets 0 = .ok (.iload_n 2, 1) := by decide +kernel
theorem d_Md_gets_1 : decode b_Md_gets 1 = .ok (.iload_n 3, 1) := by decide +kernel
theorem d_Md_gets_2 : decode b_Md_gets 2 = .ok (.iconst (1), 1) := by decide +kernel
theorem d_Md_gets_3 : decode b_Md_gets 3 = .ok (.iadd, 1) := by decide +kernel
theorem d_Md_gets_4 : decode b_Md_gets 4 = .ok (.invokestatic 146, 3) := by decide +kernel
theorem d_Md_gets_7 : decode b_Md_gets 7 = .ok (.aload_n 0, 1) := by decide +kernel
theorem d_Md_gets_8 : decode b_Md_gets 8 = .ok (.getfield 94, 3) := by decide +kernel
theorem d_Md_gets_11 : decode b_Md_gets 11 = .ok (.iload_n 1, 1) := by decide +kernel
theorem d_Md_gets_12 : decode b_Md_gets 12 = .ok (.laload, 1) := by decide +kernel
theorem d_Md_gets_13 : decode b_Md_gets 13 = .ok (.lxor, 1) := by decide +kernel
theorem d_Md_gets_14 : decode b_Md_gets 14 = .ok (.lstore 4, 2) := by decide +kernel
theorem d_Md_gets_16 : decode b_Md_gets 16 = .ok (.aload_n 0, 1) := by decide +kernel
theorem d_Md_gets_17 : decode b_Md_gets 17 = .ok (.getfield 94, 3) := by decide +kernel
theorem d_Md_gets_20 : decode b_Md_gets 20 = .ok (.iload_n 1, 1) := by decide +kernel
theorem d_Md_gets_21 : decode b_Md_gets 21 = .ok (.lconst 0, 1) := by decide +kernel
theorem d_Md_gets_22 : decode b_Md_gets 22 = .ok (.lastore, 1) := by decide +kernel
theorem d_Md_gets_23 : decode b_Md_gets 23 = .ok (.aload_n 0, 1) := by decide +kernel
theorem d_Md_gets_24 : decode b_Md_gets 24 = .ok (.lload 4, 2) := by decide +kernel
theorem d_Md_gets_26 : decode b_Md_gets 26 = .ok (.iload_n 3, 1) := by decide +kernel
theorem d_Md_gets_27 : decode b_Md_gets 27 = .ok (.iconst (1), 1) := by decide +kernel
theorem d_Md_gets_28 : decode b_Md_gets 28 = .ok (.iadd, 1) := by decide +kernel
theorem d_Md_gets_29 : decode b_Md_gets 29 = .ok (.invokevirtual 150, 3) := by decide +kernel
theorem d_Md_gets_32 : decode b_Md_gets 32 = .ok (.ireturn, 1) := by decide +kernel
theorem d_Md_control_0 : decode b_Md_control 0 = .ok (.iload_n 0, 1) := by decide +kernel
theorem d_Md_control_1 : decode b_Md_control 1 = .ok (.bipush (16), 2) := by decide +kernel
theorem d_Md_control_3 : decode b_Md_control 3 = .ok (.ishl, 1) := by decide +kernel
theorem d_Md_control_4 : decode b_Md_control 4 = .ok (.iload_n 1, 1) := by decide +kernel
theorem d_Md_control_5 : decode b_Md_control 5 = .ok (.bipush (13), 2) := by decide +kernel
theorem d_Md_control_7 : decode b_Md_control 7 = .ok (.ishl, 1) := by decide +kernel
theorem d_Md_control_8 : decode b_Md_control 8 = .ok (.ior, 1) := by decide +kernel
theorem d_Md_control_9 : decode b_Md_control 9 = .ok (.iload_n 2, 1) := by decide +kernel
theorem d_Md_control_10 : decode b_Md_control 10 = .ok (.bipush (11), 2) := by decide +kernel
theorem d_Md_control_12 : decode b_Md_control 12 = .ok (.ishl, 1) := by decide +kernel
theorem d_Md_control_13 : decode b_Md_control 13 = .ok (.ior, 1) := by decide +kernel
theorem d_Md_control_14 : decode b_Md_control 14 = .ok (.iload_n 3, 1) := by decide +kernel
theorem d_Md_control_15 : decode b_Md_control 15 = .ok (.bipush (9), 2) := by decide +kernel
theorem d_Md_control_17 : decode b_Md_control 17 = .ok (.ishl, 1) := by decide +kernel
theorem d_Md_control_18 : decode b_Md_control 18 = .ok (.ior, 1) := by decide +kernel
theorem d_Md_control_19 : decode b_Md_control 19 = .ok (.iload 4, 2) := by decide +kernel
theorem d_Md_control_21 : decode b_Md_control 21 = .ok (.ior, 1) := by decide +kernel
theorem d_Md_control_22 : decode b_Md_control 22 = .ok (.ireturn, 1) := by decide +kernel
def p_Md_check_49 (p0 : Int32) (post : Int32 → SI → SJ → Prop) (k7 : Int32 → Int32 → SI → SJ → Prop) (v1 : Int32) (v2 : Int32) (I : SI) (J : SJ) : Prop :=
  ∀ x4, x4 = v2 + (-1 : Int32) → k7 v1 x4 I J
def p_Md_check_30 (p0 : Int32) (post : Int32 → SI → SJ → Prop) (k7 : Int32 → Int32 → SI → SJ → Prop) (v1 : Int32) (v2 : Int32) (s0 : Int32) (I : SI) (J : SJ) : Prop :=
  ∀ x3, x3 = (xsl v1 (1 : Int32)) &&& (4095 : Int32) → ((s0 = (0) → p_Md_check_49 p0 post k7 x3 v2 I J) ∧ (¬ s0 = (0) → ∀ x5, x5 = x3 ^^^ (2063 : Int32) → p_Md_check_49 p0 post k7 x5 v2 I J))
def p_Md_check_L7 (p0 : Int32) (post : Int32 → SI → SJ → Prop) : Nat → Int32 → Int32 → SI → SJ → Prop
  | 0, _, _, _, _ => False
  | n + 1, v1, v2, I, J => ((v2 < (0) → post v1 I J) ∧ (¬ v2 < (0) → ((((xsr v1 (11 : Int32)) &&& (1 : Int32)) = ((xsr p0 v2) &&& (1 : Int32)) → p_Md_check_30 p0 post (p_Md_check_L7 p0 post n) v1 v2 (0 : Int32) I J) ∧ (¬ ((xsr v1 (11 : Int32)) &&& (1 : Int32)) = ((xsr p0 v2) &&& (1 : Int32)) → p_Md_check_30 p0 post (p_Md_check_L7 p0 post n) v1 v2 (1 : Int32) I J))))
def p_Md_check (p0 : Int32) (post : Int32 → SI → SJ → Prop) (I : SI) (J : SJ) : Prop :=
  ∀ x1, x1 = (4095 : Int32) → ∀ x2, x2 = (19 : Int32) → ∃ n9, p_Md_check_L7 p0 post n9 x1 x2 I J
abbrev rm_Md_check : Room := { frames := 0, cells := 0, slots := 0, locals := 0 }
def p_Md_mix_L4 (p0 : Int32) (p1 : Int32) (post : Int32 → SI → SJ → Prop) : Nat → Int32 → Int32 → SI → SJ → Prop
  | 0, _, _, _, _ => False
  | n + 1, v2, v3, I, J => (((3 : Int32) ≤ v3 → post ((xsu v2 (8 : Int32)) &&& (8388607 : Int32)) I J) ∧ (¬ (3 : Int32) ≤ v3 → ∀ x2, x2 = ((v2 * (1103515245 : Int32)) + p1) + (12345 : Int32) → ∀ x3, x3 = v3 + (1 : Int32) → p_Md_mix_L4 p0 p1 post n x2 x3 I J))
def p_Md_mix (p0 : Int32) (p1 : Int32) (post : Int32 → SI → SJ → Prop) (I : SI) (J : SJ) : Prop :=
  ∀ x1, x1 = (0 : Int32) → ∃ n5, p_Md_mix_L4 p0 p1 post n5 p0 x1 I J
abbrev rm_Md_mix : Room := { frames := 0, cells := 0, slots := 0, locals := 0 }
def p_Md_turns_50 (p0 : Int32) (post : Int64 → SI → SJ → Prop) (k12 : Int32 → Int64 → Int32 → SI → SJ → Prop) (v1 : Int32) (v2 : Int64) (v4 : Int32) (s0 : Int32) (I : SI) (J : SJ) : Prop :=
  ∀ x4, x4 = (xsr v1 (1 : Int32)) + s0 → ∀ x5, x5 = v4 + (1 : Int32) → k12 x4 v2 x5 I J
def p_Md_turns_33 (p0 : Int32) (post : Int64 → SI → SJ → Prop) (k12 : Int32 → Int64 → Int32 → SI → SJ → Prop) (v1 : Int32) (v2 : Int64) (v4 : Int32) (I : SI) (J : SJ) : Prop :=
  (((v1 &&& (1 : Int32)) = ((xsr v1 (3 : Int32)) &&& (1 : Int32)) → p_Md_turns_50 p0 post k12 v1 v2 v4 (0 : Int32) I J) ∧ (¬ (v1 &&& (1 : Int32)) = ((xsr v1 (3 : Int32)) &&& (1 : Int32)) → p_Md_turns_50 p0 post k12 v1 v2 v4 (64 : Int32) I J))
def p_Md_turns_L12 (p0 : Int32) (post : Int64 → SI → SJ → Prop) : Nat → Int32 → Int64 → Int32 → SI → SJ → Prop
  | 0, _, _, _, _, _ => False
  | n + 1, v1, v2, v4, I, J => (((54 : Int32) ≤ v4 → post v2 I J) ∧ (¬ (54 : Int32) ≤ v4 → ((¬ (v1 &&& (1 : Int32)) = (1 : Int32) → p_Md_turns_33 p0 post (p_Md_turns_L12 p0 post n) v1 v2 v4 I J) ∧ ((v1 &&& (1 : Int32)) = (1 : Int32) → ∀ x7, x7 = v2 ||| (xll (1 : Int64) v4) → p_Md_turns_33 p0 post (p_Md_turns_L12 p0 post n) v1 x7 v4 I J))))
def p_Md_turns (p0 : Int32) (post : Int64 → SI → SJ → Prop) (I : SI) (J : SJ) : Prop :=
  ∀ x1, x1 = ((9 : Int32) * p0) + (1 : Int32) → ∀ x2, x2 = (0 : Int64) → ∀ x3, x3 = (0 : Int32) → ∃ n10, p_Md_turns_L12 p0 post n10 x1 x2 x3 I J
abbrev rm_Md_turns : Room := { frames := 0, cells := 0, slots := 0, locals := 0 }
def p_Md_sentFor (p0 : Int32) (p1 : Int32) (p2 : Int32) (post : Int32 → SI → SJ → Prop) (I : SI) (J : SJ) : Prop :=
  ∀ x1, x1 = p0 &&& (1 : Int32) → ∀ x2, x2 = (xsr p0 (1 : Int32)) &&& (1 : Int32) → ∀ x3, x3 = (xsr p0 (2 : Int32)) &&& (1 : Int32) → ∀ x4, x4 = xsr p0 (3 : Int32) → ((¬ p2 = (0) → post (((p1 ^^^ x1) ^^^ x2) ^^^ x4) I J) ∧ (p2 = (0) → post ((p1 ^^^ x3) ^^^ x4) I J))
abbrev rm_Md_sentFor : Room := { frames := 0, cells := 0, slots := 0, locals := 0 }
def p_Md_burstOf_105 (p0 : Int32) (p1 : Int32) (post : Int64 → SI → SJ → Prop) (k51 : Int64 → Int64 → Int32 → Int32 → Int32 → Int32 → Int32 → SI → SJ → Prop) (v2 : Int64) (v4 : Int64) (v6 : Int32) (v7 : Int32) (v8 : Int32) (v9 : Int32) (v10 : Int32) (I : SI) (J : SJ) : Prop :=
  ∀ x14, x14 = v10 + (1 : Int32) → k51 v2 v4 v6 v7 v8 v9 x14 I J
def p_Md_burstOf_102 (p0 : Int32) (p1 : Int32) (post : Int64 → SI → SJ → Prop) (k51 : Int64 → Int64 → Int32 → Int32 → Int32 → Int32 → Int32 → SI → SJ → Prop) (v2 : Int64) (v4 : Int64) (v6 : Int32) (v7 : Int32) (v8 : Int32) (v9 : Int32) (v10 : Int32) (I : SI) (J : SJ) : Prop :=
  ∀ x18, x18 = v7 + (1 : Int32) → p_Md_burstOf_105 p0 p1 post k51 v2 v4 v6 x18 v8 v9 v10 I J
def p_Md_burstOf_L51 (p0 : Int32) (p1 : Int32) (post : Int64 → SI → SJ → Prop) (k111 : Int64 → Int64 → Int32 → Int32 → Int32 → Int32 → SI → SJ → Prop) : Nat → Int64 → Int64 → Int32 → Int32 → Int32 → Int32 → Int32 → SI → SJ → Prop
  | 0, _, _, _, _, _, _, _, _, _ => False
  | n + 1, v2, v4, v6, v7, v8, v9, v10, I, J => (((2 : Int32) ≤ v10 → k111 v2 v4 v6 v7 v8 v9 I J) ∧ (¬ (2 : Int32) ≤ v10 → ∀ x13, x13 = ((2 : Int32) * v8) + v10 → (((xrm x13 (4 : Int32)) = (3 : Int32) → p_Md_burstOf_105 p0 p1 post (p_Md_burstOf_L51 p0 p1 post k111 n) v2 v4 v6 v7 v8 v9 v10 I J) ∧ (¬ (xrm x13 (4 : Int32)) = (3 : Int32) → p_Md_sentFor v6 v9 v10 (fun r17 I15 J16 => ((¬ r17 = (1 : Int32) → p_Md_burstOf_102 p0 p1 post (p_Md_burstOf_L51 p0 p1 post k111 n) v2 v4 v6 v7 v8 v9 v10 I15 J16) ∧ (r17 = (1 : Int32) → ∀ x19, x19 = v4 ^^^ (xll (1 : Int64) (xrm ((17 : Int32) * v7) (54 : Int32))) → p_Md_burstOf_102 p0 p1 post (p_Md_burstOf_L51 p0 p1 post k111 n) v2 x19 v6 v7 v8 v9 v10 I15 J16))) I J))))
def p_Md_burstOf_L29 (p0 : Int32) (p1 : Int32) (post : Int64 → SI → SJ → Prop) : Nat → Int64 → Int64 → Int32 → Int32 → Int32 → SI → SJ → Prop
  | 0, _, _, _, _, _, _, _ => False
  | n + 1, v2, v4, v6, v7, v8, I, J => (((36 : Int32) ≤ v8 → post v4 I J) ∧ (¬ (36 : Int32) ≤ v8 → ∀ x11, x11 = (Int64.toInt32 (xlr v2 ((35 : Int32) - v8))) &&& (1 : Int32) → ∀ x12, x12 = (0 : Int32) → ∃ n33, p_Md_burstOf_L51 p0 p1 post (fun z23 z24 z25 z26 z27 z28 I29 J30 => ∀ x31, x31 = ((xsl z25 (1 : Int32)) ||| z28) &&& (15 : Int32) → ∀ x32, x32 = z27 + (1 : Int32) → p_Md_burstOf_L29 p0 p1 post n z23 z24 x31 z26 x32 I29 J30) n33 v2 v4 v6 v7 v8 x11 x12 I J))
def p_Md_burstOf (p0 : Int32) (p1 : Int32) (post : Int64 → SI → SJ → Prop) (I : SI) (J : SJ) : Prop :=
  p_Md_check p0 (fun r3 I1 J2 => ∀ x4, x4 = (xll (Int32.toInt64 p0) (16 : Int32)) ||| (xll (Int32.toInt64 r3) (4 : Int32)) → p_Md_turns p1 (fun r7 I5 J6 => ∀ x8, x8 = (0 : Int32) → ∀ x9, x9 = (0 : Int32) → ∀ x10, x10 = (0 : Int32) → ∃ n35, p_Md_burstOf_L29 p0 p1 post n35 x4 r7 x8 x9 x10 I5 J6) I1 J2) I J
abbrev rm_Md_burstOf : Room := { frames := 1, cells := 0, slots := 0, locals := 26 }
def p_Md_misses_50 (p1 : Int32) (p2 : Int32) (p3 : Int32) (post : Int32 → SI → SJ → Prop) (k6 : Int32 → Int32 → SI → SJ → Prop) (v4 : Int32) (v5 : Int32) (I : SI) (J : SJ) : Prop :=
  ∀ x4, x4 = v5 + (1 : Int32) → k6 v4 x4 I J
def p_Md_misses_L6 (p1 : Int32) (p2 : Int32) (p3 : Int32) (post : Int32 → SI → SJ → Prop) : Nat → Int32 → Int32 → SI → SJ → Prop
  | 0, _, _, _, _ => False
  | n + 1, v4, v5, I, J => (((2 : Int32) ≤ v5 → post v4 I J) ∧ (¬ (2 : Int32) ≤ v5 → ∃ j3, ((2 : Int32) * p1) + v5 = nI j3 ∧ j3 < 72 ∧ (((I (1) j3) < (0) → p_Md_misses_50 p1 p2 p3 post (p_Md_misses_L6 p1 p2 p3 post n) v4 v5 I J) ∧ (¬ (I (1) j3) < (0) → ∃ j5, ((2 : Int32) * p1) + v5 = nI j5 ∧ j5 < 72 ∧ p_Md_sentFor p2 p3 v5 (fun r8 I6 J7 => (((I (1) j5) = r8 → p_Md_misses_50 p1 p2 p3 post (p_Md_misses_L6 p1 p2 p3 post n) v4 v5 I6 J7) ∧ (¬ (I (1) j5) = r8 → ∀ x9, x9 = v4 + (1 : Int32) → p_Md_misses_50 p1 p2 p3 post (p_Md_misses_L6 p1 p2 p3 post n) x9 v5 I6 J7))) I J))))
def p_Md_misses (p1 : Int32) (p2 : Int32) (p3 : Int32) (post : Int32 → SI → SJ → Prop) (I : SI) (J : SJ) : Prop :=
  ∀ x1, x1 = (0 : Int32) → ∀ x2, x2 = (0 : Int32) → ∃ n13, p_Md_misses_L6 p1 p2 p3 post n13 x1 x2 I J
abbrev rm_Md_misses : Room := { frames := 1, cells := 0, slots := 0, locals := 26 }
def p_Md_nearest_61 (p1 : Int64) (p3 : Int32) (post : SI → SJ → Prop) (k14 : Int64 → Int32 → Int32 → SI → SJ → Prop) (v4 : Int64) (v6 : Int32) (v7 : Int32) (I : SI) (J : SJ) : Prop :=
  ∀ x9, x9 = v7 + (1 : Int32) → k14 v4 v6 x9 I J
def p_Md_nearest_L14 (p1 : Int64) (p3 : Int32) (post : SI → SJ → Prop) (k67 : SI → SJ → Prop) : Nat → Int64 → Int32 → Int32 → SI → SJ → Prop
  | 0, _, _, _, _, _ => False
  | n + 1, v4, v6, v7, I, J => (((72 : Int32) ≤ v7 → k67 I J) ∧ (¬ (72 : Int32) ≤ v7 → ∃ j7, v7 = nI j7 ∧ j7 < 72 ∧ ∀ I8, I8 = xu I (1) j7 (-1 : Int32) → (((xrm v7 (4 : Int32)) = (3 : Int32) → p_Md_nearest_61 p1 p3 post (p_Md_nearest_L14 p1 p3 post k67 n) v4 v6 v7 I8 J) ∧ (¬ (xrm v7 (4 : Int32)) = (3 : Int32) → ∃ j10, v7 = nI j10 ∧ j10 < 72 ∧ ∀ I11, I11 = xu I8 (1) j10 ((Int64.toInt32 (xlr v4 (xrm ((17 : Int32) * v6) (54 : Int32)))) &&& (1 : Int32)) → ∀ x12, x12 = v6 + (1 : Int32) → p_Md_nearest_61 p1 p3 post (p_Md_nearest_L14 p1 p3 post k67 n) v4 x12 v7 I11 J))))
def p_Md_nearest_L70 (p1 : Int64) (p3 : Int32) (post : SI → SJ → Prop) (k95 : SI → SJ → Prop) : Nat → Int32 → SI → SJ → Prop
  | 0, _, _, _ => False
  | n + 1, v7, I, J => (((16 : Int32) ≤ v7 → k95 I J) ∧ (¬ (16 : Int32) ≤ v7 → ∃ j18, (576 : Int32) + v7 = nI j18 ∧ j18 < 592 ∧ ∀ I19, I19 = xu I (2) j18 (0 : Int32) → ∀ x20, x20 = v7 + (1 : Int32) → p_Md_nearest_L70 p1 p3 post k95 n x20 I19 J))
def p_Md_nearest_221 (p1 : Int64) (p3 : Int32) (post : SI → SJ → Prop) (k107 : Int32 → Int32 → SI → SJ → Prop) (v7 : Int32) (v8 : Int32) (s0 : Int32) (s1 : Int32) (I : SI) (J : SJ) : Prop :=
  ∃ j31, s1 = nI j31 ∧ j31 < 592 ∧ ∀ I32, I32 = xu I (2) j31 s0 → ∀ x33, x33 = v8 + (1 : Int32) → k107 v7 x33 I32 J
def p_Md_nearest_193 (p1 : Int64) (p3 : Int32) (post : SI → SJ → Prop) (k107 : Int32 → Int32 → SI → SJ → Prop) (v7 : Int32) (v8 : Int32) (v9 : Int32) (s0 : Int32) (I : SI) (J : SJ) : Prop :=
  ((s0 < v9 → p_Md_nearest_221 p1 p3 post k107 v7 v8 s0 (((16 : Int32) * v7) + v8) I J) ∧ (¬ s0 < v9 → p_Md_nearest_221 p1 p3 post k107 v7 v8 v9 (((16 : Int32) * v7) + v8) I J))
def p_Md_nearest_L107 (p1 : Int64) (p3 : Int32) (post : SI → SJ → Prop) (k228 : Int32 → SI → SJ → Prop) : Nat → Int32 → Int32 → SI → SJ → Prop
  | 0, _, _, _, _ => False
  | n + 1, v7, v8, I, J => (((16 : Int32) ≤ v8 → k228 v7 I J) ∧ (¬ (16 : Int32) ≤ v8 → p_Md_misses v7 v8 (0 : Int32) (fun r28 I26 J27 => ∃ j29, (((16 : Int32) * v7) + (16 : Int32)) + ((xsl v8 (1 : Int32)) &&& (15 : Int32)) = nI j29 ∧ j29 < 592 ∧ ∀ x30, x30 = r28 + (I26 (2) j29) → (((32 : Int32) ≤ v7 → p_Md_nearest_193 p1 p3 post (p_Md_nearest_L107 p1 p3 post k228 n) v7 v8 x30 (1000 : Int32) I26 J27) ∧ (¬ (32 : Int32) ≤ v7 → p_Md_misses v7 v8 (1 : Int32) (fun r37 I35 J36 => ∃ j38, (((16 : Int32) * v7) + (16 : Int32)) + (((xsl v8 (1 : Int32)) &&& (15 : Int32)) ||| (1 : Int32)) = nI j38 ∧ j38 < 592 ∧ p_Md_nearest_193 p1 p3 post (p_Md_nearest_L107 p1 p3 post k228 n) v7 v8 x30 (r37 + (I35 (2) j38)) I35 J36) I26 J27))) I J))
def p_Md_nearest_L99 (p1 : Int64) (p3 : Int32) (post : SI → SJ → Prop) (k234 : SI → SJ → Prop) : Nat → Int32 → SI → SJ → Prop
  | 0, _, _, _ => False
  | n + 1, v7, I, J => ((v7 < (0) → k234 I J) ∧ (¬ v7 < (0) → ∀ x25, x25 = (0 : Int32) → ∃ n45, p_Md_nearest_L107 p1 p3 post (fun z41 I42 J43 => ∀ x44, x44 = z41 + (-1 : Int32) → p_Md_nearest_L99 p1 p3 post k234 n x44 I42 J43) n45 v7 x25 I J))
def p_Md_nearest_318 (p1 : Int64) (p3 : Int32) (post : SI → SJ → Prop) (k255 : Int32 → Int32 → SI → SJ → Prop) (v7 : Int32) (v8 : Int32) (s0 : Int32) (I : SI) (J : SJ) : Prop :=
  ∀ J59, J59 = xv J (0) 3 ((xll (J 0 3) (1 : Int32)) ||| (Int32.toInt64 s0)) → ∀ x60, x60 = ((xsl v7 (1 : Int32)) ||| s0) &&& (15 : Int32) → ∀ x61, x61 = v8 + (1 : Int32) → k255 x60 x61 I J59
def p_Md_nearest_L255 (p1 : Int64) (p3 : Int32) (post : SI → SJ → Prop) : Nat → Int32 → Int32 → SI → SJ → Prop
  | 0, _, _, _, _ => False
  | n + 1, v7, v8, I, J => (((36 : Int32) ≤ v8 → post I J) ∧ (¬ (36 : Int32) ≤ v8 → p_Md_misses v8 v7 (0 : Int32) (fun r55 I53 J54 => ∃ j56, (((16 : Int32) * v8) + (16 : Int32)) + ((xsl v7 (1 : Int32)) &&& (15 : Int32)) = nI j56 ∧ j56 < 592 ∧ ∀ x57, x57 = r55 + (I53 (2) j56) → ∃ j58, ((16 : Int32) * v8) + v7 = nI j58 ∧ j58 < 592 ∧ ((¬ x57 = (I53 (2) j58) → p_Md_nearest_318 p1 p3 post (p_Md_nearest_L255 p1 p3 post n) v7 v8 (1 : Int32) I53 J54) ∧ (x57 = (I53 (2) j58) → p_Md_nearest_318 p1 p3 post (p_Md_nearest_L255 p1 p3 post n) v7 v8 (0 : Int32) I53 J54))) I J))
def p_Md_nearest (p1 : Int64) (p3 : Int32) (post : SI → SJ → Prop) (I : SI) (J : SJ) : Prop :=
  p_Md_turns p3 (fun r3 I1 J2 => ∀ x4, x4 = p1 ^^^ r3 → ∀ x5, x5 = (0 : Int32) → ∀ x6, x6 = (0 : Int32) → ∃ n67, p_Md_nearest_L14 p1 p3 post (fun I15 J16 => ∀ x17, x17 = (0 : Int32) → ∃ n66, p_Md_nearest_L70 p1 p3 post (fun I22 J23 => ∀ x24, x24 = (35 : Int32) → ∃ n65, p_Md_nearest_L99 p1 p3 post (fun I47 J48 => ∀ I49, I49 = xu I47 (0) 4 (I47 (2) 0) → ∀ J50, J50 = xv J48 (0) 3 (0 : Int64) → ∀ x51, x51 = (0 : Int32) → ∀ x52, x52 = (0 : Int32) → ∃ n64, p_Md_nearest_L255 p1 p3 post n64 x51 x52 I49 J50) n65 x24 I22 J23) n66 x17 I15 J16) n67 x4 x5 x6 I1 J2) I J
abbrev rm_Md_nearest : Room := { frames := 2, cells := 0, slots := 0, locals := 51 }
def p_Md_blockOf (p1 : Int64) (p3 : Int32) (post : Int32 → SI → SJ → Prop) (I : SI) (J : SJ) : Prop :=
  p_Md_nearest p1 p3 (fun I1 J2 => ∀ x3, x3 = Int64.toInt32 (xlr (J2 0 3) (16 : Int32)) → p_Md_check x3 (fun r6 I4 J5 => ((¬ ((Int64.toInt32 (xlr (J2 0 3) (4 : Int32))) &&& (4095 : Int32)) = r6 → post (-1 : Int32) I4 J5) ∧ (((Int64.toInt32 (xlr (J2 0 3) (4 : Int32))) &&& (4095 : Int32)) = r6 → post x3 I4 J5))) I1 J2) I J
abbrev rm_Md_blockOf : Room := { frames := 3, cells := 0, slots := 0, locals := 81 }
def p_Md_gets (p1 : Int32) (p2 : Int32) (p3 : Int32) (post : Int32 → SI → SJ → Prop) (I : SI) (J : SJ) : Prop :=
  p_Md_burstOf p2 (p3 + (1 : Int32)) (fun r3 I1 J2 => ∃ j4, p1 = nI j4 ∧ j4 < 11 ∧ ∀ x5, x5 = r3 ^^^ (J2 (25) j4) → ∃ j6, p1 = nI j6 ∧ j6 < 11 ∧ ∀ J7, J7 = xv J2 (25) j6 (0 : Int64) → p_Md_blockOf x5 (p3 + (1 : Int32)) (fun r10 I8 J9 => post r10 I8 J9) I1 J7) I J
abbrev rm_Md_gets : Room := { frames := 4, cells := 0, slots := 0, locals := 105 }
def p_Md_control (p0 : Int32) (p1 : Int32) (p2 : Int32) (p3 : Int32) (p4 : Int32) (post : Int32 → SI → SJ → Prop) (I : SI) (J : SJ) : Prop :=
  post (((((xsl p0 (16 : Int32)) ||| (xsl p1 (13 : Int32))) ||| (xsl p2 (11 : Int32))) ||| (xsl p3 (9 : Int32))) ||| p4) I J
abbrev rm_Md_control : Room := { frames := 0, cells := 0, slots := 0, locals := 0 }
set_option maxHeartbeats 4000000 in
set_option maxRecDepth 100000 in
theorem c_Md_check (l : Launch) (D : va_G) (κ : Nat → ClassId) {Θ : Nat → Nat} (hΘ : xJ 34 Θ) (sz : Nat) (p0 : Int32) (I : SI) (J : SJ) (post : Int32 → SI → SJ → Prop) (h : p_Md_check p0 post I J) : Met l y_Md_check WS rm_Md_check (va_Pc [.int p0] (xPR D clA (tysA κ) 34 Θ (eM Θ κ) sz I J)) (xQi D clA 34 Θ (eM Θ κ) sz post) 0 0 (xA 34 Θ sz) := by
  refine xMet (cc := b_Md_check) (maxL := 4) (ret := (some .int)) (by decide) q_Md_check.1 ?_
  intro p e s m args below meth c s₁ B hml hv
  obtain ⟨hargs, hsz, hP, hK, hN, hG⟩ := hv
  have hx := B.exec
  have hb := B.bytes
  have hr := B.returns
  have hlocks := B.notSynchronized
  have hts := atoms_spec (ws := WS) B.pre
  have hown : s.vm.findClass R_Md = some m.cls := findClass_of_methodNamed B.named
  have C : xC p m c b_Md_check 4 s args R_Md D clA (tysA κ) 34 Θ sz := ⟨⟨hx, hb, hml, hown, hts⟩, hK, hN, hG, hsz⟩
  have hS : va_S (xA 34 Θ sz) s.heap s.heap [] := va_S.rf
  have tJ49 : ∀ (k7 : Int32 → Int32 → SI → SJ → Prop), (∀ (v1 : Int32) (v2 : Int32) (I : SI) (J : SJ), k7 v1 v2 I J → ∀ (H : Heap) (locs : List Loc) (ls : Array Slot), lv_has ls 4 [(0, .int p0), (1, .int v1), (2, .int v2)] → va_P D clA (xw 34 Θ (eM Θ κ) I J) H → va_S (xA 34 Θ sz) s.heap H locs → W p l e (headSpec WS rm_Md_check).room s m args below meth c H locs 0 0 (MQ below (xQi D clA 34 Θ (eM Θ κ) sz post) args s 0 0 (xA 34 Θ sz)) (F0 m 7 ls [])) → ∀ (v1 : Int32) (v2 : Int32) (I : SI) (J : SJ), p_Md_check_49 p0 post k7 v1 v2 I J → ∀ (H : Heap) (locs : List Loc) (ls : Array Slot), lv_has ls 4 [(0, .int p0), (1, .int v1), (2, .int v2)] → va_P D clA (xw 34 Θ (eM Θ κ) I J) H → va_S (xA 34 Θ sz) s.heap H locs → W p l e (headSpec WS rm_Md_check).room s m args below meth c H locs 0 0 (MQ below (xQi D clA 34 Θ (eM Θ κ) sz post) args s 0 0 (xA 34 Θ sz)) (F0 m 49 ls []) := by
    intro k7 hk7 v1 v2 I J h H locs ls hl hP hS
    unfold p_Md_check_49 at h
    obtain ⟨x4, ex4⟩ : ∃ y : Int32, y = v2 + (-1 : Int32) := ⟨_, rfl⟩
    have h := h x4 ex4
    refine lv_iinc (k := 2) (v := x4) hx hb d_Md_check_49 hl rfl (by rw [ex4]; rfl) (Nat.le_of_ble_eq_true rfl) (lv' := [(2, .int x4), (0, .int p0), (1, .int v1)]) rfl (fun ls hl => ?_)
    refine lv_goto hx hb d_Md_check_52 (tgt := 7) rfl ?_
    exact hk7 _ _ _ _ h _ _ _ (lv_sub hl [1, 2, 0] rfl) hP hS
  have tJ30 : ∀ (k7 : Int32 → Int32 → SI → SJ → Prop), (∀ (v1 : Int32) (v2 : Int32) (I : SI) (J : SJ), k7 v1 v2 I J → ∀ (H : Heap) (locs : List Loc) (ls : Array Slot), lv_has ls 4 [(0, .int p0), (1, .int v1), (2, .int v2)] → va_P D clA (xw 34 Θ (eM Θ κ) I J) H → va_S (xA 34 Θ sz) s.heap H locs → W p l e (headSpec WS rm_Md_check).room s m args below meth c H locs 0 0 (MQ below (xQi D clA 34 Θ (eM Θ κ) sz post) args s 0 0 (xA 34 Θ sz)) (F0 m 7 ls [])) → ∀ (v1 : Int32) (v2 : Int32) (s0 : Int32) (I : SI) (J : SJ), p_Md_check_30 p0 post k7 v1 v2 s0 I J → ∀ (H : Heap) (locs : List Loc) (ls : Array Slot), lv_has ls 4 [(0, .int p0), (1, .int v1), (2, .int v2)] → va_P D clA (xw 34 Θ (eM Θ κ) I J) H → va_S (xA 34 Θ sz) s.heap H locs → W p l e (headSpec WS rm_Md_check).room s m args below meth c H locs 0 0 (MQ below (xQi D clA 34 Θ (eM Θ κ) sz post) args s 0 0 (xA 34 Θ sz)) (F0 m 30 ls [.int s0]) := by
    intro k7 hk7 v1 v2 s0 I J h H locs ls hl hP hS
    unfold p_Md_check_30 at h
    refine lv_istore_n hx hb d_Md_check_30 rfl hl (Nat.le_of_ble_eq_true rfl) (lv' := [(3, .int s0), (0, .int p0), (1, .int v1), (2, .int v2)]) rfl (fun ls hl => ?_)
    refine lv_iload_n hx hb d_Md_check_31 rfl (lv_at hl 2 rfl) ?_
    refine lv_iconst (v := (1 : Int32)) hx hb d_Md_check_32 (by decide) ?_
    refine lv_ishl hx hb d_Md_check_33 ?_
    refine lv_sipush (v := (4095 : Int32)) hx hb d_Md_check_34 (by decide) ?_
    refine lv_iand hx hb d_Md_check_37 ?_
    refine lv_topi (fun x3 ex3 => ?_)
    have h := h x3 ex3
    refine lv_istore_n hx hb d_Md_check_38 rfl hl (Nat.le_of_ble_eq_true rfl) (lv' := [(1, .int x3), (3, .int s0), (0, .int p0), (2, .int v2)]) rfl (fun ls hl => ?_)
    refine lv_iload_n hx hb d_Md_check_39 rfl (lv_at hl 1 rfl) ?_
    refine lv_if_eq hx hb d_Md_check_40 (tgt := 49) rfl (fun hc6 => ?_) (fun hc6 => ?_)
    · have h := h.1 hc6
      exact tJ49 _ hk7 _ _ _ _ h _ _ _ (lv_sub hl [2, 0, 3] rfl) hP hS
    · have h := h.2 hc6
      refine lv_iload_n hx hb d_Md_check_43 rfl (lv_at hl 0 rfl) ?_
      refine lv_sipush (v := (2063 : Int32)) hx hb d_Md_check_44 (by decide) ?_
      refine lv_ixor hx hb d_Md_check_47 ?_
      refine lv_topi (fun x5 ex5 => ?_)
      have h := h x5 ex5
      refine lv_istore_n hx hb d_Md_check_48 rfl hl (Nat.le_of_ble_eq_true rfl) (lv' := [(1, .int x5), (3, .int s0), (0, .int p0), (2, .int v2)]) rfl (fun ls hl => ?_)
      exact tJ49 _ hk7 _ _ _ _ h _ _ _ (lv_sub hl [2, 0, 3] rfl) hP hS
  have tL7 : ∀ (n : Nat) (v1 : Int32) (v2 : Int32) (I : SI) (J : SJ), p_Md_check_L7 p0 post n v1 v2 I J → ∀ (H : Heap) (locs : List Loc) (ls : Array Slot), lv_has ls 4 [(0, .int p0), (1, .int v1), (2, .int v2)] → va_P D clA (xw 34 Θ (eM Θ κ) I J) H → va_S (xA 34 Θ sz) s.heap H locs → W p l e (headSpec WS rm_Md_check).room s m args below meth c H locs 0 0 (MQ below (xQi D clA 34 Θ (eM Θ κ) sz post) args s 0 0 (xA 34 Θ sz)) (F0 m 7 ls []) := by
    intro n
    induction n with
    | zero =>
      intro v1 v2 I J h H locs ls hl hP hS
      exact h.elim
    | succ n ih =>
      intro v1 v2 I J h H locs ls hl hP hS
      unfold p_Md_check_L7 at h
      refine lv_iload_n hx hb d_Md_check_7 rfl (lv_at hl 2 rfl) ?_
      refine lv_if_lt hx hb d_Md_check_8 (tgt := 55) rfl (fun hc8 => ?_) (fun hc8 => ?_)
      · have h := h.1 hc8
        refine lv_iload_n hx hb d_Md_check_55 rfl (lv_at hl 1 rfl) ?_
        exact x_iret hx hb hr hlocks hP hS h d_Md_check_56
      · have h := h.2 hc8
        refine lv_iload_n hx hb d_Md_check_11 rfl (lv_at hl 1 rfl) ?_
        refine lv_bipush (v := (11 : Int32)) hx hb d_Md_check_12 (by decide) ?_
        refine lv_ishr hx hb d_Md_check_14 ?_
        refine lv_iconst (v := (1 : Int32)) hx hb d_Md_check_15 (by decide) ?_
        refine lv_iand hx hb d_Md_check_16 ?_
        refine lv_iload_n hx hb d_Md_check_17 rfl (lv_at hl 0 rfl) ?_
        refine lv_iload_n hx hb d_Md_check_18 rfl (lv_at hl 2 rfl) ?_
        refine lv_ishr hx hb d_Md_check_19 ?_
        refine lv_iconst (v := (1 : Int32)) hx hb d_Md_check_20 (by decide) ?_
        refine lv_iand hx hb d_Md_check_21 ?_
        refine lv_icmp_eq hx hb d_Md_check_22 (tgt := 29) rfl (fun hc7 => ?_) (fun hc7 => ?_)
        · have h := h.1 hc7
          refine lv_iconst (v := (0 : Int32)) hx hb d_Md_check_29 (by decide) ?_
          exact tJ30 _ ih _ _ _ _ _ h _ _ _ (lv_sub hl [0, 1, 2] rfl) hP hS
        · have h := h.2 hc7
          refine lv_iconst (v := (1 : Int32)) hx hb d_Md_check_25 (by decide) ?_
          refine lv_goto hx hb d_Md_check_26 (tgt := 30) rfl ?_
          exact tJ30 _ ih _ _ _ _ _ h _ _ _ (lv_sub hl [0, 1, 2] rfl) hP hS
  have hE := lg_entry_eq m [.int p0] 4
  rw [← hargs] at hE
  rw [hE]
  have hl := lv_entry [.int p0] (n := 4) (Nat.le_of_ble_eq_true rfl)
  generalize (lg_sl [.int p0] ++ List.replicate (4 - (lg_sl [.int p0]).length) Slot.unset).toArray = ls at hl ⊢
  have hl : lv_has ls 4 [(0, .int p0)] := hl
  unfold p_Md_check at h
  refine lv_sipush (v := (4095 : Int32)) hx hb d_Md_check_0 (by decide) ?_
  refine lv_topi (fun x1 ex1 => ?_)
  have h := h x1 ex1
  refine lv_istore_n hx hb d_Md_check_3 rfl hl (Nat.le_of_ble_eq_true rfl) (lv' := [(1, .int x1), (0, .int p0)]) rfl (fun ls hl => ?_)
  refine lv_bipush (v := (19 : Int32)) hx hb d_Md_check_4 (by decide) ?_
  refine lv_topi (fun x2 ex2 => ?_)
  have h := h x2 ex2
  refine lv_istore_n hx hb d_Md_check_6 rfl hl (Nat.le_of_ble_eq_true rfl) (lv' := [(2, .int x2), (1, .int x1), (0, .int p0)]) rfl (fun ls hl => ?_)
  obtain ⟨n9, h⟩ := h
  refine tL7 n9 _ _ _ _ h _ _ _ (lv_sub hl [2, 1, 0] rfl) hP hS
set_option maxHeartbeats 4000000 in
set_option maxRecDepth 100000 in
theorem c_Md_mix (l : Launch) (D : va_G) (κ : Nat → ClassId) {Θ : Nat → Nat} (hΘ : xJ 34 Θ) (sz : Nat) (p0 : Int32) (p1 : Int32) (I : SI) (J : SJ) (post : Int32 → SI → SJ → Prop) (h : p_Md_mix p0 p1 post I J) : Met l y_Md_mix WS rm_Md_mix (va_Pc [.int p0, .int p1] (xPR D clA (tysA κ) 34 Θ (eM Θ κ) sz I J)) (xQi D clA 34 Θ (eM Θ κ) sz post) 0 0 (xA 34 Θ sz) := by
  refine xMet (cc := b_Md_mix) (maxL := 4) (ret := (some .int)) (by decide) q_Md_mix.1 ?_
  intro p e s m args below meth c s₁ B hml hv
  obtain ⟨hargs, hsz, hP, hK, hN, hG⟩ := hv
  have hx := B.exec
  have hb := B.bytes
  have hr := B.returns
  have hlocks := B.notSynchronized
  have hts := atoms_spec (ws := WS) B.pre
  have hown : s.vm.findClass R_Md = some m.cls := findClass_of_methodNamed B.named
  have C : xC p m c b_Md_mix 4 s args R_Md D clA (tysA κ) 34 Θ sz := ⟨⟨hx, hb, hml, hown, hts⟩, hK, hN, hG, hsz⟩
  have hS : va_S (xA 34 Θ sz) s.heap s.heap [] := va_S.rf
  have tL4 : ∀ (n : Nat) (v2 : Int32) (v3 : Int32) (I : SI) (J : SJ), p_Md_mix_L4 p0 p1 post n v2 v3 I J → ∀ (H : Heap) (locs : List Loc) (ls : Array Slot), lv_has ls 4 [(1, .int p1), (2, .int v2), (3, .int v3)] → va_P D clA (xw 34 Θ (eM Θ κ) I J) H → va_S (xA 34 Θ sz) s.heap H locs → W p l e (headSpec WS rm_Md_mix).room s m args below meth c H locs 0 0 (MQ below (xQi D clA 34 Θ (eM Θ κ) sz post) args s 0 0 (xA 34 Θ sz)) (F0 m 4 ls []) := by
    intro n
    induction n with
    | zero =>
      intro v2 v3 I J h H locs ls hl hP hS
      exact h.elim
    | succ n ih =>
      intro v2 v3 I J h H locs ls hl hP hS
      unfold p_Md_mix_L4 at h
      refine lv_iload_n hx hb d_Md_mix_4 rfl (lv_at hl 2 rfl) ?_
      refine lv_iconst (v := (3 : Int32)) hx hb d_Md_mix_5 (by decide) ?_
      refine lv_icmp_ge hx hb d_Md_mix_6 (tgt := 26) rfl (fun hc4 => ?_) (fun hc4 => ?_)
      · have h := h.1 hc4
        refine lv_iload_n hx hb d_Md_mix_26 rfl (lv_at hl 1 rfl) ?_
        refine lv_bipush (v := (8 : Int32)) hx hb d_Md_mix_27 (by decide) ?_
        refine lv_iushr (v := xsu v2 (8 : Int32)) hx hb d_Md_mix_29 rfl ?_
        refine lv_ldc (v := (8388607 : Int32)) hx hb hown (hts _ k_964) d_Md_mix_30 ?_
        refine lv_iand hx hb d_Md_mix_32 ?_
        exact x_iret hx hb hr hlocks hP hS h d_Md_mix_33
      · have h := h.2 hc4
        refine lv_iload_n hx hb d_Md_mix_9 rfl (lv_at hl 1 rfl) ?_
        refine lv_ldc (v := (1103515245 : Int32)) hx hb hown (hts _ k_963) d_Md_mix_10 ?_
        refine lv_imul hx hb d_Md_mix_12 ?_
        refine lv_iload_n hx hb d_Md_mix_13 rfl (lv_at hl 0 rfl) ?_
        refine lv_iadd hx hb d_Md_mix_14 ?_
        refine lv_sipush (v := (12345 : Int32)) hx hb d_Md_mix_15 (by decide) ?_
        refine lv_iadd hx hb d_Md_mix_18 ?_
        refine lv_topi (fun x2 ex2 => ?_)
        have h := h x2 ex2
        refine lv_istore_n hx hb d_Md_mix_19 rfl hl (Nat.le_of_ble_eq_true rfl) (lv' := [(2, .int x2), (1, .int p1), (3, .int v3)]) rfl (fun ls hl => ?_)
        obtain ⟨x3, ex3⟩ : ∃ y : Int32, y = v3 + (1 : Int32) := ⟨_, rfl⟩
        have h := h x3 ex3
        refine lv_iinc (k := 2) (v := x3) hx hb d_Md_mix_20 hl rfl (by rw [ex3]; rfl) (Nat.le_of_ble_eq_true rfl) (lv' := [(3, .int x3), (2, .int x2), (1, .int p1)]) rfl (fun ls hl => ?_)
        refine lv_goto hx hb d_Md_mix_23 (tgt := 4) rfl ?_
        exact ih _ _ _ _ h _ _ _ (lv_sub hl [2, 1, 0] rfl) hP hS
  have hE := lg_entry_eq m [.int p0, .int p1] 4
  rw [← hargs] at hE
  rw [hE]
  have hl := lv_entry [.int p0, .int p1] (n := 4) (Nat.le_of_ble_eq_true rfl)
  generalize (lg_sl [.int p0, .int p1] ++ List.replicate (4 - (lg_sl [.int p0, .int p1]).length) Slot.unset).toArray = ls at hl ⊢
  have hl : lv_has ls 4 [(0, .int p0), (1, .int p1)] := hl
  unfold p_Md_mix at h
  refine lv_iload_n hx hb d_Md_mix_0 rfl (lv_at hl 0 rfl) ?_
  refine lv_istore_n hx hb d_Md_mix_1 rfl hl (Nat.le_of_ble_eq_true rfl) (lv' := [(2, .int p0), (0, .int p0), (1, .int p1)]) rfl (fun ls hl => ?_)
  refine lv_iconst (v := (0 : Int32)) hx hb d_Md_mix_2 (by decide) ?_
  refine lv_topi (fun x1 ex1 => ?_)
  have h := h x1 ex1
  refine lv_istore_n hx hb d_Md_mix_3 rfl hl (Nat.le_of_ble_eq_true rfl) (lv' := [(3, .int x1), (2, .int p0), (0, .int p0), (1, .int p1)]) rfl (fun ls hl => ?_)
  obtain ⟨n5, h⟩ := h
  refine tL4 n5 _ _ _ _ h _ _ _ (lv_sub hl [3, 1, 0] rfl) hP hS
set_option maxHeartbeats 4000000 in
set_option maxRecDepth 100000 in
theorem c_Md_turns (l : Launch) (D : va_G) (κ : Nat → ClassId) {Θ : Nat → Nat} (hΘ : xJ 34 Θ) (sz : Nat) (p0 : Int32) (I : SI) (J : SJ) (post : Int64 → SI → SJ → Prop) (h : p_Md_turns p0 post I J) : Met l y_Md_turns WS rm_Md_turns (va_Pc [.int p0] (xPR D clA (tysA κ) 34 Θ (eM Θ κ) sz I J)) (xQl D clA 34 Θ (eM Θ κ) sz post) 0 0 (xA 34 Θ sz) := by
  refine xMet (cc := b_Md_turns) (maxL := 6) (ret := (some .long)) (by decide) q_Md_turns.1 ?_
  intro p e s m args below meth c s₁ B hml hv
  obtain ⟨hargs, hsz, hP, hK, hN, hG⟩ := hv
  have hx := B.exec
  have hb := B.bytes
  have hr := B.returns
  have hlocks := B.notSynchronized
  have hts := atoms_spec (ws := WS) B.pre
  have hown : s.vm.findClass R_Md = some m.cls := findClass_of_methodNamed B.named
  have C : xC p m c b_Md_turns 6 s args R_Md D clA (tysA κ) 34 Θ sz := ⟨⟨hx, hb, hml, hown, hts⟩, hK, hN, hG, hsz⟩
  have hS : va_S (xA 34 Θ sz) s.heap s.heap [] := va_S.rf
  have tJ50 : ∀ (k12 : Int32 → Int64 → Int32 → SI → SJ → Prop), (∀ (v1 : Int32) (v2 : Int64) (v4 : Int32) (I : SI) (J : SJ), k12 v1 v2 v4 I J → ∀ (H : Heap) (locs : List Loc) (ls : Array Slot), lv_has ls 6 [(1, .int v1), (2, .long v2), (4, .int v4)] → va_P D clA (xw 34 Θ (eM Θ κ) I J) H → va_S (xA 34 Θ sz) s.heap H locs → W p l e (headSpec WS rm_Md_turns).room s m args below meth c H locs 0 0 (MQ below (xQl D clA 34 Θ (eM Θ κ) sz post) args s 0 0 (xA 34 Θ sz)) (F0 m 12 ls [])) → ∀ (v1 : Int32) (v2 : Int64) (v4 : Int32) (s0 : Int32) (I : SI) (J : SJ), p_Md_turns_50 p0 post k12 v1 v2 v4 s0 I J → ∀ (H : Heap) (locs : List Loc) (ls : Array Slot), lv_has ls 6 [(1, .int v1), (2, .long v2), (4, .int v4)] → va_P D clA (xw 34 Θ (eM Θ κ) I J) H → va_S (xA 34 Θ sz) s.heap H locs → W p l e (headSpec WS rm_Md_turns).room s m args below meth c H locs 0 0 (MQ below (xQl D clA 34 Θ (eM Θ κ) sz post) args s 0 0 (xA 34 Θ sz)) (F0 m 50 ls [.int s0]) := by
    intro k12 hk12 v1 v2 v4 s0 I J h H locs ls hl hP hS
    unfold p_Md_turns_50 at h
    refine lv_istore hx hb d_Md_turns_50 hl (Nat.le_of_ble_eq_true rfl) (lv' := [(5, .int s0), (1, .int v1), (2, .long v2), (4, .int v4)]) rfl (fun ls hl => ?_)
    refine lv_iload_n hx hb d_Md_turns_52 rfl (lv_at hl 1 rfl) ?_
    refine lv_iconst (v := (1 : Int32)) hx hb d_Md_turns_53 (by decide) ?_
    refine lv_ishr hx hb d_Md_turns_54 ?_
    refine lv_iload hx hb d_Md_turns_55 (lv_at hl 0 rfl) ?_
    refine lv_iadd hx hb d_Md_turns_57 ?_
    refine lv_topi (fun x4 ex4 => ?_)
    have h := h x4 ex4
    refine lv_istore_n hx hb d_Md_turns_58 rfl hl (Nat.le_of_ble_eq_true rfl) (lv' := [(1, .int x4), (5, .int s0), (2, .long v2), (4, .int v4)]) rfl (fun ls hl => ?_)
    obtain ⟨x5, ex5⟩ : ∃ y : Int32, y = v4 + (1 : Int32) := ⟨_, rfl⟩
    have h := h x5 ex5
    refine lv_iinc (k := 3) (v := x5) hx hb d_Md_turns_59 hl rfl (by rw [ex5]; rfl) (Nat.le_of_ble_eq_true rfl) (lv' := [(4, .int x5), (1, .int x4), (5, .int s0), (2, .long v2)]) rfl (fun ls hl => ?_)
    refine lv_goto hx hb d_Md_turns_62 (tgt := 12) rfl ?_
    exact hk12 _ _ _ _ _ h _ _ _ (lv_sub hl [1, 3, 0] rfl) hP hS
  have tJ33 : ∀ (k12 : Int32 → Int64 → Int32 → SI → SJ → Prop), (∀ (v1 : Int32) (v2 : Int64) (v4 : Int32) (I : SI) (J : SJ), k12 v1 v2 v4 I J → ∀ (H : Heap) (locs : List Loc) (ls : Array Slot), lv_has ls 6 [(1, .int v1), (2, .long v2), (4, .int v4)] → va_P D clA (xw 34 Θ (eM Θ κ) I J) H → va_S (xA 34 Θ sz) s.heap H locs → W p l e (headSpec WS rm_Md_turns).room s m args below meth c H locs 0 0 (MQ below (xQl D clA 34 Θ (eM Θ κ) sz post) args s 0 0 (xA 34 Θ sz)) (F0 m 12 ls [])) → ∀ (v1 : Int32) (v2 : Int64) (v4 : Int32) (I : SI) (J : SJ), p_Md_turns_33 p0 post k12 v1 v2 v4 I J → ∀ (H : Heap) (locs : List Loc) (ls : Array Slot), lv_has ls 6 [(1, .int v1), (2, .long v2), (4, .int v4)] → va_P D clA (xw 34 Θ (eM Θ κ) I J) H → va_S (xA 34 Θ sz) s.heap H locs → W p l e (headSpec WS rm_Md_turns).room s m args below meth c H locs 0 0 (MQ below (xQl D clA 34 Θ (eM Θ κ) sz post) args s 0 0 (xA 34 Θ sz)) (F0 m 33 ls []) := by
    intro k12 hk12 v1 v2 v4 I J h H locs ls hl hP hS
    unfold p_Md_turns_33 at h
    refine lv_iload_n hx hb d_Md_turns_33 rfl (lv_at hl 0 rfl) ?_
    refine lv_iconst (v := (1 : Int32)) hx hb d_Md_turns_34 (by decide) ?_
    refine lv_iand hx hb d_Md_turns_35 ?_
    refine lv_iload_n hx hb d_Md_turns_36 rfl (lv_at hl 0 rfl) ?_
    refine lv_iconst (v := (3 : Int32)) hx hb d_Md_turns_37 (by decide) ?_
    refine lv_ishr hx hb d_Md_turns_38 ?_
    refine lv_iconst (v := (1 : Int32)) hx hb d_Md_turns_39 (by decide) ?_
    refine lv_iand hx hb d_Md_turns_40 ?_
    refine lv_icmp_eq hx hb d_Md_turns_41 (tgt := 49) rfl (fun hc6 => ?_) (fun hc6 => ?_)
    · have h := h.1 hc6
      refine lv_iconst (v := (0 : Int32)) hx hb d_Md_turns_49 (by decide) ?_
      exact tJ50 _ hk12 _ _ _ _ _ _ h _ _ _ (lv_sub hl [0, 1, 2] rfl) hP hS
    · have h := h.2 hc6
      refine lv_bipush (v := (64 : Int32)) hx hb d_Md_turns_44 (by decide) ?_
      refine lv_goto hx hb d_Md_turns_46 (tgt := 50) rfl ?_
      exact tJ50 _ hk12 _ _ _ _ _ _ h _ _ _ (lv_sub hl [0, 1, 2] rfl) hP hS
  have tL12 : ∀ (n : Nat) (v1 : Int32) (v2 : Int64) (v4 : Int32) (I : SI) (J : SJ), p_Md_turns_L12 p0 post n v1 v2 v4 I J → ∀ (H : Heap) (locs : List Loc) (ls : Array Slot), lv_has ls 6 [(1, .int v1), (2, .long v2), (4, .int v4)] → va_P D clA (xw 34 Θ (eM Θ κ) I J) H → va_S (xA 34 Θ sz) s.heap H locs → W p l e (headSpec WS rm_Md_turns).room s m args below meth c H locs 0 0 (MQ below (xQl D clA 34 Θ (eM Θ κ) sz post) args s 0 0 (xA 34 Θ sz)) (F0 m 12 ls []) := by
    intro n
    induction n with
    | zero =>
      intro v1 v2 v4 I J h H locs ls hl hP hS
      exact h.elim
    | succ n ih =>
      intro v1 v2 v4 I J h H locs ls hl hP hS
      unfold p_Md_turns_L12 at h
      refine lv_iload hx hb d_Md_turns_12 (lv_at hl 2 rfl) ?_
      refine lv_bipush (v := (54 : Int32)) hx hb d_Md_turns_14 (by decide) ?_
      refine lv_icmp_ge hx hb d_Md_turns_16 (tgt := 65) rfl (fun hc9 => ?_) (fun hc9 => ?_)
      · have h := h.1 hc9
        refine lv_lload_n hx hb d_Md_turns_65 rfl (lv_at hl 1 rfl) ?_
        exact x_lret hx hb hr hlocks hP hS h d_Md_turns_66
      · have h := h.2 hc9
        refine lv_iload_n hx hb d_Md_turns_19 rfl (lv_at hl 0 rfl) ?_
        refine lv_iconst (v := (1 : Int32)) hx hb d_Md_turns_20 (by decide) ?_
        refine lv_iand hx hb d_Md_turns_21 ?_
        refine lv_iconst (v := (1 : Int32)) hx hb d_Md_turns_22 (by decide) ?_
        refine lv_icmp_ne hx hb d_Md_turns_23 (tgt := 33) rfl (fun hc8 => ?_) (fun hc8 => ?_)
        · have h := h.1 hc8
          exact tJ33 _ ih _ _ _ _ _ h _ _ _ (lv_sub hl [0, 1, 2] rfl) hP hS
        · have h := h.2 hc8
          refine lv_lload_n hx hb d_Md_turns_26 rfl (lv_at hl 1 rfl) ?_
          refine lv_lconst (v := (1 : Int64)) hx hb d_Md_turns_27 (by decide) ?_
          refine lv_iload hx hb d_Md_turns_28 (lv_at hl 2 rfl) ?_
          refine lv_lshl (v := xll (1 : Int64) v4) hx hb d_Md_turns_30 rfl ?_
          refine lv_lor hx hb d_Md_turns_31 ?_
          refine lv_topl (fun x7 ex7 => ?_)
          have h := h x7 ex7
          refine lv_lstore_n hx hb d_Md_turns_32 rfl hl (Nat.le_of_ble_eq_true rfl) (lv' := [(2, .long x7), (1, .int v1), (4, .int v4)]) rfl (fun ls hl => ?_)
          exact tJ33 _ ih _ _ _ _ _ h _ _ _ (lv_sub hl [1, 0, 2] rfl) hP hS
  have hE := lg_entry_eq m [.int p0] 6
  rw [← hargs] at hE
  rw [hE]
  have hl := lv_entry [.int p0] (n := 6) (Nat.le_of_ble_eq_true rfl)
  generalize (lg_sl [.int p0] ++ List.replicate (6 - (lg_sl [.int p0]).length) Slot.unset).toArray = ls at hl ⊢
  have hl : lv_has ls 6 [(0, .int p0)] := hl
  unfold p_Md_turns at h
  refine lv_bipush (v := (9 : Int32)) hx hb d_Md_turns_0 (by decide) ?_
  refine lv_iload_n hx hb d_Md_turns_2 rfl (lv_at hl 0 rfl) ?_
  refine lv_imul hx hb d_Md_turns_3 ?_
  refine lv_iconst (v := (1 : Int32)) hx hb d_Md_turns_4 (by decide) ?_
  refine lv_iadd hx hb d_Md_turns_5 ?_
  refine lv_topi (fun x1 ex1 => ?_)
  have h := h x1 ex1
  refine lv_istore_n hx hb d_Md_turns_6 rfl hl (Nat.le_of_ble_eq_true rfl) (lv' := [(1, .int x1), (0, .int p0)]) rfl (fun ls hl => ?_)
  refine lv_lconst (v := (0 : Int64)) hx hb d_Md_turns_7 (by decide) ?_
  refine lv_topl (fun x2 ex2 => ?_)
  have h := h x2 ex2
  refine lv_lstore_n hx hb d_Md_turns_8 rfl hl (Nat.le_of_ble_eq_true rfl) (lv' := [(2, .long x2), (1, .int x1), (0, .int p0)]) rfl (fun ls hl => ?_)
  refine lv_iconst (v := (0 : Int32)) hx hb d_Md_turns_9 (by decide) ?_
  refine lv_topi (fun x3 ex3 => ?_)
  have h := h x3 ex3
  refine lv_istore hx hb d_Md_turns_10 hl (Nat.le_of_ble_eq_true rfl) (lv' := [(4, .int x3), (2, .long x2), (1, .int x1), (0, .int p0)]) rfl (fun ls hl => ?_)
  obtain ⟨n10, h⟩ := h
  refine tL12 n10 _ _ _ _ _ h _ _ _ (lv_sub hl [2, 1, 0] rfl) hP hS
set_option maxHeartbeats 4000000 in
set_option maxRecDepth 100000 in
theorem c_Md_sentFor (l : Launch) (D : va_G) (κ : Nat → ClassId) {Θ : Nat → Nat} (hΘ : xJ 34 Θ) (sz : Nat) (p0 : Int32) (p1 : Int32) (p2 : Int32) (I : SI) (J : SJ) (post : Int32 → SI → SJ → Prop) (h : p_Md_sentFor p0 p1 p2 post I J) : Met l y_Md_sentFor WS rm_Md_sentFor (va_Pc [.int p0, .int p1, .int p2] (xPR D clA (tysA κ) 34 Θ (eM Θ κ) sz I J)) (xQi D clA 34 Θ (eM Θ κ) sz post) 0 0 (xA 34 Θ sz) := by
  refine xMet (cc := b_Md_sentFor) (maxL := 7) (ret := (some .int)) (by decide) q_Md_sentFor.1 ?_
  intro p e s m args below meth c s₁ B hml hv
  obtain ⟨hargs, hsz, hP, hK, hN, hG⟩ := hv
  have hx := B.exec
  have hb := B.bytes
  have hr := B.returns
  have hlocks := B.notSynchronized
  have hts := atoms_spec (ws := WS) B.pre
  have hown : s.vm.findClass R_Md = some m.cls := findClass_of_methodNamed B.named
  have C : xC p m c b_Md_sentFor 7 s args R_Md D clA (tysA κ) 34 Θ sz := ⟨⟨hx, hb, hml, hown, hts⟩, hK, hN, hG, hsz⟩
  have hS : va_S (xA 34 Θ sz) s.heap s.heap [] := va_S.rf
  have hE := lg_entry_eq m [.int p0, .int p1, .int p2] 7
  rw [← hargs] at hE
  rw [hE]
  have hl := lv_entry [.int p0, .int p1, .int p2] (n := 7) (Nat.le_of_ble_eq_true rfl)
  generalize (lg_sl [.int p0, .int p1, .int p2] ++ List.replicate (7 - (lg_sl [.int p0, .int p1, .int p2]).length) Slot.unset).toArray = ls at hl ⊢
  have hl : lv_has ls 7 [(0, .int p0), (1, .int p1), (2, .int p2)] := hl
  unfold p_Md_sentFor at h
  refine lv_iload_n hx hb d_Md_sentFor_0 rfl (lv_at hl 0 rfl) ?_
  refine lv_iconst (v := (1 : Int32)) hx hb d_Md_sentFor_1 (by decide) ?_
  refine lv_iand hx hb d_Md_sentFor_2 ?_
  refine lv_topi (fun x1 ex1 => ?_)
  have h := h x1 ex1
  refine lv_istore_n hx hb d_Md_sentFor_3 rfl hl (Nat.le_of_ble_eq_true rfl) (lv' := [(3, .int x1), (0, .int p0), (1, .int p1), (2, .int p2)]) rfl (fun ls hl => ?_)
  refine lv_iload_n hx hb d_Md_sentFor_4 rfl (lv_at hl 1 rfl) ?_
  refine lv_iconst (v := (1 : Int32)) hx hb d_Md_sentFor_5 (by decide) ?_
  refine lv_ishr hx hb d_Md_sentFor_6 ?_
  refine lv_iconst (v := (1 : Int32)) hx hb d_Md_sentFor_7 (by decide) ?_
  refine lv_iand hx hb d_Md_sentFor_8 ?_
  refine lv_topi (fun x2 ex2 => ?_)
  have h := h x2 ex2
  refine lv_istore hx hb d_Md_sentFor_9 hl (Nat.le_of_ble_eq_true rfl) (lv' := [(4, .int x2), (3, .int x1), (0, .int p0), (1, .int p1), (2, .int p2)]) rfl (fun ls hl => ?_)
  refine lv_iload_n hx hb d_Md_sentFor_11 rfl (lv_at hl 2 rfl) ?_
  refine lv_iconst (v := (2 : Int32)) hx hb d_Md_sentFor_12 (by decide) ?_
  refine lv_ishr hx hb d_Md_sentFor_13 ?_
  refine lv_iconst (v := (1 : Int32)) hx hb d_Md_sentFor_14 (by decide) ?_
  refine lv_iand hx hb d_Md_sentFor_15 ?_
  refine lv_topi (fun x3 ex3 => ?_)
  have h := h x3 ex3
  refine lv_istore hx hb d_Md_sentFor_16 hl (Nat.le_of_ble_eq_true rfl) (lv' := [(5, .int x3), (4, .int x2), (3, .int x1), (0, .int p0), (1, .int p1), (2, .int p2)]) rfl (fun ls hl => ?_)
  refine lv_iload_n hx hb d_Md_sentFor_18 rfl (lv_at hl 3 rfl) ?_
  refine lv_iconst (v := (3 : Int32)) hx hb d_Md_sentFor_19 (by decide) ?_
  refine lv_ishr hx hb d_Md_sentFor_20 ?_
  refine lv_topi (fun x4 ex4 => ?_)
  have h := h x4 ex4
  refine lv_istore hx hb d_Md_sentFor_21 hl (Nat.le_of_ble_eq_true rfl) (lv' := [(6, .int x4), (5, .int x3), (4, .int x2), (3, .int x1), (0, .int p0), (1, .int p1), (2, .int p2)]) rfl (fun ls hl => ?_)
  refine lv_iload_n hx hb d_Md_sentFor_23 rfl (lv_at hl 6 rfl) ?_
  refine lv_if_ne hx hb d_Md_sentFor_24 (tgt := 37) rfl (fun hc5 => ?_) (fun hc5 => ?_)
  · have h := h.1 hc5
    refine lv_iload_n hx hb d_Md_sentFor_37 rfl (lv_at hl 5 rfl) ?_
    refine lv_iload_n hx hb d_Md_sentFor_38 rfl (lv_at hl 3 rfl) ?_
    refine lv_ixor hx hb d_Md_sentFor_39 ?_
    refine lv_iload hx hb d_Md_sentFor_40 (lv_at hl 2 rfl) ?_
    refine lv_ixor hx hb d_Md_sentFor_42 ?_
    refine lv_iload hx hb d_Md_sentFor_43 (lv_at hl 0 rfl) ?_
    refine lv_ixor hx hb d_Md_sentFor_45 ?_
    exact x_iret hx hb hr hlocks hP hS h d_Md_sentFor_46
  · have h := h.2 hc5
    refine lv_iload_n hx hb d_Md_sentFor_27 rfl (lv_at hl 5 rfl) ?_
    refine lv_iload hx hb d_Md_sentFor_28 (lv_at hl 1 rfl) ?_
    refine lv_ixor hx hb d_Md_sentFor_30 ?_
    refine lv_iload hx hb d_Md_sentFor_31 (lv_at hl 0 rfl) ?_
    refine lv_ixor hx hb d_Md_sentFor_33 ?_
    refine lv_goto hx hb d_Md_sentFor_34 (tgt := 46) rfl ?_
    exact x_iret hx hb hr hlocks hP hS h d_Md_sentFor_46
set_option maxHeartbeats 4000000 in
set_option maxRecDepth 100000 in
theorem c_Md_burstOf (l : Launch) (D : va_G) (κ : Nat → ClassId) {Θ : Nat → Nat} (hΘ : xJ 34 Θ) (sz : Nat) (p0 : Int32) (p1 : Int32) (I : SI) (J : SJ) (post : Int64 → SI → SJ → Prop) (h : p_Md_burstOf p0 p1 post I J) : Met l y_Md_burstOf WS rm_Md_burstOf (va_Pc [.int p0, .int p1] (xPR D clA (tysA κ) 34 Θ (eM Θ κ) sz I J)) (xQl D clA 34 Θ (eM Θ κ) sz post) 0 0 (xA 34 Θ sz) := by
  refine xMet (cc := b_Md_burstOf) (maxL := 12) (ret := (some .long)) (by decide) q_Md_burstOf.1 ?_
  intro p e s m args below meth c s₁ B hml hv
  obtain ⟨hargs, hsz, hP, hK, hN, hG⟩ := hv
  have hx := B.exec
  have hb := B.bytes
  have hr := B.returns
  have hlocks := B.notSynchronized
  have hts := atoms_spec (ws := WS) B.pre
  have hown : s.vm.findClass R_Md = some m.cls := findClass_of_methodNamed B.named
  have C : xC p m c b_Md_burstOf 12 s args R_Md D clA (tysA κ) 34 Θ sz := ⟨⟨hx, hb, hml, hown, hts⟩, hK, hN, hG, hsz⟩
  have hS : va_S (xA 34 Θ sz) s.heap s.heap [] := va_S.rf
  have tJ105 : ∀ (k51 : Int64 → Int64 → Int32 → Int32 → Int32 → Int32 → Int32 → SI → SJ → Prop), (∀ (v2 : Int64) (v4 : Int64) (v6 : Int32) (v7 : Int32) (v8 : Int32) (v9 : Int32) (v10 : Int32) (I : SI) (J : SJ), k51 v2 v4 v6 v7 v8 v9 v10 I J → ∀ (H : Heap) (locs : List Loc) (ls : Array Slot), lv_has ls 12 [(2, .long v2), (4, .long v4), (6, .int v6), (7, .int v7), (8, .int v8), (9, .int v9), (10, .int v10)] → va_P D clA (xw 34 Θ (eM Θ κ) I J) H → va_S (xA 34 Θ sz) s.heap H locs → W p l e (headSpec WS rm_Md_burstOf).room s m args below meth c H locs 0 0 (MQ below (xQl D clA 34 Θ (eM Θ κ) sz post) args s 0 0 (xA 34 Θ sz)) (F0 m 51 ls [])) → ∀ (v2 : Int64) (v4 : Int64) (v6 : Int32) (v7 : Int32) (v8 : Int32) (v9 : Int32) (v10 : Int32) (I : SI) (J : SJ), p_Md_burstOf_105 p0 p1 post k51 v2 v4 v6 v7 v8 v9 v10 I J → ∀ (H : Heap) (locs : List Loc) (ls : Array Slot), lv_has ls 12 [(2, .long v2), (4, .long v4), (6, .int v6), (7, .int v7), (8, .int v8), (9, .int v9), (10, .int v10)] → va_P D clA (xw 34 Θ (eM Θ κ) I J) H → va_S (xA 34 Θ sz) s.heap H locs → W p l e (headSpec WS rm_Md_burstOf).room s m args below meth c H locs 0 0 (MQ below (xQl D clA 34 Θ (eM Θ κ) sz post) args s 0 0 (xA 34 Θ sz)) (F0 m 105 ls []) := by
    intro k51 hk51 v2 v4 v6 v7 v8 v9 v10 I J h H locs ls hl hP hS
    unfold p_Md_burstOf_105 at h
    obtain ⟨x14, ex14⟩ : ∃ y : Int32, y = v10 + (1 : Int32) := ⟨_, rfl⟩
    have h := h x14 ex14
    refine lv_iinc (k := 6) (v := x14) hx hb d_Md_burstOf_105 hl rfl (by rw [ex14]; rfl) (Nat.le_of_ble_eq_true rfl) (lv' := [(10, .int x14), (2, .long v2), (4, .long v4), (6, .int v6), (7, .int v7), (8, .int v8), (9, .int v9)]) rfl (fun ls hl => ?_)
    refine lv_goto hx hb d_Md_burstOf_108 (tgt := 51) rfl ?_
    exact hk51 _ _ _ _ _ _ _ _ _ h _ _ _ (lv_sub hl [1, 2, 3, 4, 5, 6, 0] rfl) hP hS
  have tJ102 : ∀ (k51 : Int64 → Int64 → Int32 → Int32 → Int32 → Int32 → Int32 → SI → SJ → Prop), (∀ (v2 : Int64) (v4 : Int64) (v6 : Int32) (v7 : Int32) (v8 : Int32) (v9 : Int32) (v10 : Int32) (I : SI) (J : SJ), k51 v2 v4 v6 v7 v8 v9 v10 I J → ∀ (H : Heap) (locs : List Loc) (ls : Array Slot), lv_has ls 12 [(2, .long v2), (4, .long v4), (6, .int v6), (7, .int v7), (8, .int v8), (9, .int v9), (10, .int v10)] → va_P D clA (xw 34 Θ (eM Θ κ) I J) H → va_S (xA 34 Θ sz) s.heap H locs → W p l e (headSpec WS rm_Md_burstOf).room s m args below meth c H locs 0 0 (MQ below (xQl D clA 34 Θ (eM Θ κ) sz post) args s 0 0 (xA 34 Θ sz)) (F0 m 51 ls [])) → ∀ (v2 : Int64) (v4 : Int64) (v6 : Int32) (v7 : Int32) (v8 : Int32) (v9 : Int32) (v10 : Int32) (I : SI) (J : SJ), p_Md_burstOf_102 p0 p1 post k51 v2 v4 v6 v7 v8 v9 v10 I J → ∀ (H : Heap) (locs : List Loc) (ls : Array Slot), lv_has ls 12 [(2, .long v2), (4, .long v4), (6, .int v6), (7, .int v7), (8, .int v8), (9, .int v9), (10, .int v10)] → va_P D clA (xw 34 Θ (eM Θ κ) I J) H → va_S (xA 34 Θ sz) s.heap H locs → W p l e (headSpec WS rm_Md_burstOf).room s m args below meth c H locs 0 0 (MQ below (xQl D clA 34 Θ (eM Θ κ) sz post) args s 0 0 (xA 34 Θ sz)) (F0 m 102 ls []) := by
    intro k51 hk51 v2 v4 v6 v7 v8 v9 v10 I J h H locs ls hl hP hS
    unfold p_Md_burstOf_102 at h
    obtain ⟨x18, ex18⟩ : ∃ y : Int32, y = v7 + (1 : Int32) := ⟨_, rfl⟩
    have h := h x18 ex18
    refine lv_iinc (k := 3) (v := x18) hx hb d_Md_burstOf_102 hl rfl (by rw [ex18]; rfl) (Nat.le_of_ble_eq_true rfl) (lv' := [(7, .int x18), (2, .long v2), (4, .long v4), (6, .int v6), (8, .int v8), (9, .int v9), (10, .int v10)]) rfl (fun ls hl => ?_)
    exact tJ105 _ hk51 _ _ _ _ _ _ _ _ _ h _ _ _ (lv_sub hl [1, 2, 3, 0, 4, 5, 6] rfl) hP hS
  have tL51 : ∀ (k111 : Int64 → Int64 → Int32 → Int32 → Int32 → Int32 → SI → SJ → Prop), (∀ (v2 : Int64) (v4 : Int64) (v6 : Int32) (v7 : Int32) (v8 : Int32) (v9 : Int32) (I : SI) (J : SJ), k111 v2 v4 v6 v7 v8 v9 I J → ∀ (H : Heap) (locs : List Loc) (ls : Array Slot), lv_has ls 12 [(2, .long v2), (4, .long v4), (6, .int v6), (7, .int v7), (8, .int v8), (9, .int v9)] → va_P D clA (xw 34 Θ (eM Θ κ) I J) H → va_S (xA 34 Θ sz) s.heap H locs → W p l e (headSpec WS rm_Md_burstOf).room s m args below meth c H locs 0 0 (MQ below (xQl D clA 34 Θ (eM Θ κ) sz post) args s 0 0 (xA 34 Θ sz)) (F0 m 111 ls [])) → ∀ (n : Nat) (v2 : Int64) (v4 : Int64) (v6 : Int32) (v7 : Int32) (v8 : Int32) (v9 : Int32) (v10 : Int32) (I : SI) (J : SJ), p_Md_burstOf_L51 p0 p1 post k111 n v2 v4 v6 v7 v8 v9 v10 I J → ∀ (H : Heap) (locs : List Loc) (ls : Array Slot), lv_has ls 12 [(2, .long v2), (4, .long v4), (6, .int v6), (7, .int v7), (8, .int v8), (9, .int v9), (10, .int v10)] → va_P D clA (xw 34 Θ (eM Θ κ) I J) H → va_S (xA 34 Θ sz) s.heap H locs → W p l e (headSpec WS rm_Md_burstOf).room s m args below meth c H locs 0 0 (MQ below (xQl D clA 34 Θ (eM Θ κ) sz post) args s 0 0 (xA 34 Θ sz)) (F0 m 51 ls []) := by
    intro k111 hk111 n
    induction n with
    | zero =>
      intro v2 v4 v6 v7 v8 v9 v10 I J h H locs ls hl hP hS
      exact h.elim
    | succ n ih =>
      intro v2 v4 v6 v7 v8 v9 v10 I J h H locs ls hl hP hS
      unfold p_Md_burstOf_L51 at h
      refine lv_iload hx hb d_Md_burstOf_51 (lv_at hl 6 rfl) ?_
      refine lv_iconst (v := (2 : Int32)) hx hb d_Md_burstOf_53 (by decide) ?_
      refine lv_icmp_ge hx hb d_Md_burstOf_54 (tgt := 111) rfl (fun hc22 => ?_) (fun hc22 => ?_)
      · have h := h.1 hc22
        exact hk111 _ _ _ _ _ _ _ _ h _ _ _ (lv_sub hl [0, 1, 2, 3, 4, 5] rfl) hP hS
      · have h := h.2 hc22
        refine lv_iconst (v := (2 : Int32)) hx hb d_Md_burstOf_57 (by decide) ?_
        refine lv_iload hx hb d_Md_burstOf_58 (lv_at hl 4 rfl) ?_
        refine lv_imul hx hb d_Md_burstOf_60 ?_
        refine lv_iload hx hb d_Md_burstOf_61 (lv_at hl 6 rfl) ?_
        refine lv_iadd hx hb d_Md_burstOf_63 ?_
        refine lv_topi (fun x13 ex13 => ?_)
        have h := h x13 ex13
        refine lv_istore hx hb d_Md_burstOf_64 hl (Nat.le_of_ble_eq_true rfl) (lv' := [(11, .int x13), (2, .long v2), (4, .long v4), (6, .int v6), (7, .int v7), (8, .int v8), (9, .int v9), (10, .int v10)]) rfl (fun ls hl => ?_)
        refine lv_iload hx hb d_Md_burstOf_66 (lv_at hl 0 rfl) ?_
        refine lv_iconst (v := (4 : Int32)) hx hb d_Md_burstOf_68 (by decide) ?_
        refine lv_irem hx hb d_Md_burstOf_69 (by decide) ?_
        refine lv_iconst (v := (3 : Int32)) hx hb d_Md_burstOf_70 (by decide) ?_
        refine lv_icmp_eq hx hb d_Md_burstOf_71 (tgt := 105) rfl (fun hc21 => ?_) (fun hc21 => ?_)
        · have h := h.1 hc21
          exact tJ105 _ ih _ _ _ _ _ _ _ _ _ h _ _ _ (lv_sub hl [1, 2, 3, 4, 5, 6, 7] rfl) hP hS
        · have h := h.2 hc21
          refine lv_iload hx hb d_Md_burstOf_74 (lv_at hl 3 rfl) ?_
          refine lv_iload hx hb d_Md_burstOf_76 (lv_at hl 6 rfl) ?_
          refine lv_iload hx hb d_Md_burstOf_78 (lv_at hl 7 rfl) ?_
          refine x_gi (x_S C hP hS (c_Md_sentFor l D κ hΘ sz v6 v9 v10 I J _ h) q_Md_sentFor k_982 k_981 rfl rfl ⟨Nat.le_of_ble_eq_true rfl, Nat.le_of_ble_eq_true rfl⟩ rfl hl.1 rfl (Nat.le_of_ble_eq_true rfl) d_Md_burstOf_80) hS (fun r17 I15 J16 h H locs hP hS => ?_)
          refine lv_iconst (v := (1 : Int32)) hx hb d_Md_burstOf_83 (by decide) ?_
          refine lv_icmp_ne hx hb d_Md_burstOf_84 (tgt := 102) rfl (fun hc20 => ?_) (fun hc20 => ?_)
          · have h := h.1 hc20
            exact tJ102 _ ih _ _ _ _ _ _ _ _ _ h _ _ _ (lv_sub hl [1, 2, 3, 4, 5, 6, 7] rfl) hP hS
          · have h := h.2 hc20
            refine lv_lload hx hb d_Md_burstOf_87 (lv_at hl 2 rfl) ?_
            refine lv_lconst (v := (1 : Int64)) hx hb d_Md_burstOf_89 (by decide) ?_
            refine lv_bipush (v := (17 : Int32)) hx hb d_Md_burstOf_90 (by decide) ?_
            refine lv_iload hx hb d_Md_burstOf_92 (lv_at hl 4 rfl) ?_
            refine lv_imul hx hb d_Md_burstOf_94 ?_
            refine lv_bipush (v := (54 : Int32)) hx hb d_Md_burstOf_95 (by decide) ?_
            refine lv_irem hx hb d_Md_burstOf_97 (by decide) ?_
            refine lv_lshl (v := xll (1 : Int64) (xrm ((17 : Int32) * v7) (54 : Int32))) hx hb d_Md_burstOf_98 rfl ?_
            refine lv_lxor hx hb d_Md_burstOf_99 ?_
            refine lv_topl (fun x19 ex19 => ?_)
            have h := h x19 ex19
            refine lv_lstore hx hb d_Md_burstOf_100 hl (Nat.le_of_ble_eq_true rfl) (lv' := [(4, .long x19), (11, .int x13), (2, .long v2), (6, .int v6), (7, .int v7), (8, .int v8), (9, .int v9), (10, .int v10)]) rfl (fun ls hl => ?_)
            exact tJ102 _ ih _ _ _ _ _ _ _ _ _ h _ _ _ (lv_sub hl [2, 0, 3, 4, 5, 6, 7] rfl) hP hS
  have tL29 : ∀ (n : Nat) (v2 : Int64) (v4 : Int64) (v6 : Int32) (v7 : Int32) (v8 : Int32) (I : SI) (J : SJ), p_Md_burstOf_L29 p0 p1 post n v2 v4 v6 v7 v8 I J → ∀ (H : Heap) (locs : List Loc) (ls : Array Slot), lv_has ls 12 [(2, .long v2), (4, .long v4), (6, .int v6), (7, .int v7), (8, .int v8)] → va_P D clA (xw 34 Θ (eM Θ κ) I J) H → va_S (xA 34 Θ sz) s.heap H locs → W p l e (headSpec WS rm_Md_burstOf).room s m args below meth c H locs 0 0 (MQ below (xQl D clA 34 Θ (eM Θ κ) sz post) args s 0 0 (xA 34 Θ sz)) (F0 m 29 ls []) := by
    intro n
    induction n with
    | zero =>
      intro v2 v4 v6 v7 v8 I J h H locs ls hl hP hS
      exact h.elim
    | succ n ih =>
      intro v2 v4 v6 v7 v8 I J h H locs ls hl hP hS
      unfold p_Md_burstOf_L29 at h
      refine lv_iload hx hb d_Md_burstOf_29 (lv_at hl 4 rfl) ?_
      refine lv_bipush (v := (36 : Int32)) hx hb d_Md_burstOf_31 (by decide) ?_
      refine lv_icmp_ge hx hb d_Md_burstOf_33 (tgt := 129) rfl (fun hc34 => ?_) (fun hc34 => ?_)
      · have h := h.1 hc34
        refine lv_lload hx hb d_Md_burstOf_129 (lv_at hl 1 rfl) ?_
        exact x_lret hx hb hr hlocks hP hS h d_Md_burstOf_131
      · have h := h.2 hc34
        refine lv_lload_n hx hb d_Md_burstOf_36 rfl (lv_at hl 0 rfl) ?_
        refine lv_bipush (v := (35 : Int32)) hx hb d_Md_burstOf_37 (by decide) ?_
        refine lv_iload hx hb d_Md_burstOf_39 (lv_at hl 4 rfl) ?_
        refine lv_isub hx hb d_Md_burstOf_41 ?_
        refine lv_lshr (v := xlr v2 ((35 : Int32) - v8)) hx hb d_Md_burstOf_42 rfl ?_
        refine lv_l2i (v := Int64.toInt32 (xlr v2 ((35 : Int32) - v8))) hx hb d_Md_burstOf_43 rfl ?_
        refine lv_iconst (v := (1 : Int32)) hx hb d_Md_burstOf_44 (by decide) ?_
        refine lv_iand hx hb d_Md_burstOf_45 ?_
        refine lv_topi (fun x11 ex11 => ?_)
        have h := h x11 ex11
        refine lv_istore hx hb d_Md_burstOf_46 hl (Nat.le_of_ble_eq_true rfl) (lv' := [(9, .int x11), (2, .long v2), (4, .long v4), (6, .int v6), (7, .int v7), (8, .int v8)]) rfl (fun ls hl => ?_)
        refine lv_iconst (v := (0 : Int32)) hx hb d_Md_burstOf_48 (by decide) ?_
        refine lv_topi (fun x12 ex12 => ?_)
        have h := h x12 ex12
        refine lv_istore hx hb d_Md_burstOf_49 hl (Nat.le_of_ble_eq_true rfl) (lv' := [(10, .int x12), (9, .int x11), (2, .long v2), (4, .long v4), (6, .int v6), (7, .int v7), (8, .int v8)]) rfl (fun ls hl => ?_)
        obtain ⟨n33, h⟩ := h
        refine tL51 _ ?_ n33 _ _ _ _ _ _ _ _ _ h _ _ _ (lv_sub hl [2, 3, 4, 5, 6, 1, 0] rfl) hP hS
        · intro z23 z24 z25 z26 z27 z28 I29 J30 h H locs ls hl hP hS
          refine lv_iload hx hb d_Md_burstOf_111 (lv_at hl 2 rfl) ?_
          refine lv_iconst (v := (1 : Int32)) hx hb d_Md_burstOf_113 (by decide) ?_
          refine lv_ishl hx hb d_Md_burstOf_114 ?_
          refine lv_iload hx hb d_Md_burstOf_115 (lv_at hl 5 rfl) ?_
          refine lv_ior hx hb d_Md_burstOf_117 ?_
          refine lv_bipush (v := (15 : Int32)) hx hb d_Md_burstOf_118 (by decide) ?_
          refine lv_iand hx hb d_Md_burstOf_120 ?_
          refine lv_topi (fun x31 ex31 => ?_)
          have h := h x31 ex31
          refine lv_istore hx hb d_Md_burstOf_121 hl (Nat.le_of_ble_eq_true rfl) (lv' := [(6, .int x31), (2, .long z23), (4, .long z24), (7, .int z26), (8, .int z27), (9, .int z28)]) rfl (fun ls hl => ?_)
          obtain ⟨x32, ex32⟩ : ∃ y : Int32, y = z27 + (1 : Int32) := ⟨_, rfl⟩
          have h := h x32 ex32
          refine lv_iinc (k := 4) (v := x32) hx hb d_Md_burstOf_123 hl rfl (by rw [ex32]; rfl) (Nat.le_of_ble_eq_true rfl) (lv' := [(8, .int x32), (6, .int x31), (2, .long z23), (4, .long z24), (7, .int z26), (9, .int z28)]) rfl (fun ls hl => ?_)
          refine lv_goto hx hb d_Md_burstOf_126 (tgt := 29) rfl ?_
          exact ih _ _ _ _ _ _ _ h _ _ _ (lv_sub hl [2, 3, 1, 4, 0] rfl) hP hS
  have hE := lg_entry_eq m [.int p0, .int p1] 12
  rw [← hargs] at hE
  rw [hE]
  have hl := lv_entry [.int p0, .int p1] (n := 12) (Nat.le_of_ble_eq_true rfl)
  generalize (lg_sl [.int p0, .int p1] ++ List.replicate (12 - (lg_sl [.int p0, .int p1]).length) Slot.unset).toArray = ls at hl ⊢
  have hl : lv_has ls 12 [(0, .int p0), (1, .int p1)] := hl
  unfold p_Md_burstOf at h
  refine lv_iload_n hx hb d_Md_burstOf_0 rfl (lv_at hl 0 rfl) ?_
  refine lv_i2l (v := Int32.toInt64 p0) hx hb d_Md_burstOf_1 rfl ?_
  refine lv_bipush (v := (16 : Int32)) hx hb d_Md_burstOf_2 (by decide) ?_
  refine lv_lshl (v := xll (Int32.toInt64 p0) (16 : Int32)) hx hb d_Md_burstOf_4 rfl ?_
  refine lv_iload_n hx hb d_Md_burstOf_5 rfl (lv_at hl 0 rfl) ?_
  refine x_gi (x_S C hP hS (c_Md_check l D κ hΘ sz p0 I J _ h) q_Md_check k_976 k_975 rfl rfl ⟨Nat.le_of_ble_eq_true rfl, Nat.le_of_ble_eq_true rfl⟩ rfl hl.1 rfl (Nat.le_of_ble_eq_true rfl) d_Md_burstOf_6) hS (fun r3 I1 J2 h H locs hP hS => ?_)
  refine lv_i2l (v := Int32.toInt64 r3) hx hb d_Md_burstOf_9 rfl ?_
  refine lv_iconst (v := (4 : Int32)) hx hb d_Md_burstOf_10 (by decide) ?_
  refine lv_lshl (v := xll (Int32.toInt64 r3) (4 : Int32)) hx hb d_Md_burstOf_11 rfl ?_
  refine lv_lor hx hb d_Md_burstOf_12 ?_
  refine lv_topl (fun x4 ex4 => ?_)
  have h := h x4 ex4
  refine lv_lstore_n hx hb d_Md_burstOf_13 rfl hl (Nat.le_of_ble_eq_true rfl) (lv' := [(2, .long x4), (0, .int p0), (1, .int p1)]) rfl (fun ls hl => ?_)
  refine lv_iload_n hx hb d_Md_burstOf_14 rfl (lv_at hl 2 rfl) ?_
  refine x_gl (x_S C hP hS (c_Md_turns l D κ hΘ sz p1 I1 J2 _ h) q_Md_turns k_979 k_978 rfl rfl ⟨Nat.le_of_ble_eq_true rfl, Nat.le_of_ble_eq_true rfl⟩ rfl hl.1 rfl (Nat.le_of_ble_eq_true rfl) d_Md_burstOf_15) hS (fun r7 I5 J6 h H locs hP hS => ?_)
  refine lv_lstore hx hb d_Md_burstOf_18 hl (Nat.le_of_ble_eq_true rfl) (lv' := [(4, .long r7), (2, .long x4), (0, .int p0), (1, .int p1)]) rfl (fun ls hl => ?_)
  refine lv_iconst (v := (0 : Int32)) hx hb d_Md_burstOf_20 (by decide) ?_
  refine lv_topi (fun x8 ex8 => ?_)
  have h := h x8 ex8
  refine lv_istore hx hb d_Md_burstOf_21 hl (Nat.le_of_ble_eq_true rfl) (lv' := [(6, .int x8), (4, .long r7), (2, .long x4), (0, .int p0), (1, .int p1)]) rfl (fun ls hl => ?_)
  refine lv_iconst (v := (0 : Int32)) hx hb d_Md_burstOf_23 (by decide) ?_
  refine lv_topi (fun x9 ex9 => ?_)
  have h := h x9 ex9
  refine lv_istore hx hb d_Md_burstOf_24 hl (Nat.le_of_ble_eq_true rfl) (lv' := [(7, .int x9), (6, .int x8), (4, .long r7), (2, .long x4), (0, .int p0), (1, .int p1)]) rfl (fun ls hl => ?_)
  refine lv_iconst (v := (0 : Int32)) hx hb d_Md_burstOf_26 (by decide) ?_
  refine lv_topi (fun x10 ex10 => ?_)
  have h := h x10 ex10
  refine lv_istore hx hb d_Md_burstOf_27 hl (Nat.le_of_ble_eq_true rfl) (lv' := [(8, .int x10), (7, .int x9), (6, .int x8), (4, .long r7), (2, .long x4), (0, .int p0), (1, .int p1)]) rfl (fun ls hl => ?_)
  obtain ⟨n35, h⟩ := h
  refine tL29 n35 _ _ _ _ _ _ _ h _ _ _ (lv_sub hl [4, 3, 2, 1, 0] rfl) hP hS
set_option maxHeartbeats 4000000 in
set_option maxRecDepth 100000 in
theorem c_Md_misses (l : Launch) (D : va_G) (κ : Nat → ClassId) {Θ : Nat → Nat} (hΘ : xJ 34 Θ) (sz : Nat) (p1 : Int32) (p2 : Int32) (p3 : Int32) (I : SI) (J : SJ) (post : Int32 → SI → SJ → Prop) (h : p_Md_misses p1 p2 p3 post I J) : Met l y_Md_misses WS rm_Md_misses (va_Pc [.ref (Θ (0)), .int p1, .int p2, .int p3] (xPR D clA (tysA κ) 34 Θ (eM Θ κ) sz I J)) (xQi D clA 34 Θ (eM Θ κ) sz post) 0 0 (xA 34 Θ sz) := by
  refine xMet (cc := b_Md_misses) (maxL := 6) (ret := (some .int)) (by decide) q_Md_misses.1 ?_
  intro p e s m args below meth c s₁ B hml hv
  obtain ⟨hargs, hsz, hP, hK, hN, hG⟩ := hv
  have hx := B.exec
  have hb := B.bytes
  have hr := B.returns
  have hlocks := B.notSynchronized
  have hts := atoms_spec (ws := WS) B.pre
  have hown : s.vm.findClass R_Md = some m.cls := findClass_of_methodNamed B.named
  have C : xC p m c b_Md_misses 6 s args R_Md D clA (tysA κ) 34 Θ sz := ⟨⟨hx, hb, hml, hown, hts⟩, hK, hN, hG, hsz⟩
  have hS : va_S (xA 34 Θ sz) s.heap s.heap [] := va_S.rf
  have tJ50 : ∀ (k6 : Int32 → Int32 → SI → SJ → Prop), (∀ (v4 : Int32) (v5 : Int32) (I : SI) (J : SJ), k6 v4 v5 I J → ∀ (H : Heap) (locs : List Loc) (ls : Array Slot), lv_has ls 6 [(0, .ref (Θ (0))), (1, .int p1), (2, .int p2), (3, .int p3), (4, .int v4), (5, .int v5)] → va_P D clA (xw 34 Θ (eM Θ κ) I J) H → va_S (xA 34 Θ sz) s.heap H locs → W p l e (headSpec WS rm_Md_misses).room s m args below meth c H locs 0 0 (MQ below (xQi D clA 34 Θ (eM Θ κ) sz post) args s 0 0 (xA 34 Θ sz)) (F0 m 6 ls [])) → ∀ (v4 : Int32) (v5 : Int32) (I : SI) (J : SJ), p_Md_misses_50 p1 p2 p3 post k6 v4 v5 I J → ∀ (H : Heap) (locs : List Loc) (ls : Array Slot), lv_has ls 6 [(0, .ref (Θ (0))), (1, .int p1), (2, .int p2), (3, .int p3), (4, .int v4), (5, .int v5)] → va_P D clA (xw 34 Θ (eM Θ κ) I J) H → va_S (xA 34 Θ sz) s.heap H locs → W p l e (headSpec WS rm_Md_misses).room s m args below meth c H locs 0 0 (MQ below (xQi D clA 34 Θ (eM Θ κ) sz post) args s 0 0 (xA 34 Θ sz)) (F0 m 50 ls []) := by
    intro k6 hk6 v4 v5 I J h H locs ls hl hP hS
    unfold p_Md_misses_50 at h
    obtain ⟨x4, ex4⟩ : ∃ y : Int32, y = v5 + (1 : Int32) := ⟨_, rfl⟩
    have h := h x4 ex4
    refine lv_iinc (k := 5) (v := x4) hx hb d_Md_misses_50 hl rfl (by rw [ex4]; rfl) (Nat.le_of_ble_eq_true rfl) (lv' := [(5, .int x4), (0, .ref (Θ (0))), (1, .int p1), (2, .int p2), (3, .int p3), (4, .int v4)]) rfl (fun ls hl => ?_)
    refine lv_goto hx hb d_Md_misses_53 (tgt := 6) rfl ?_
    exact hk6 _ _ _ _ h _ _ _ (lv_sub hl [1, 2, 3, 4, 5, 0] rfl) hP hS
  have tL6 : ∀ (n : Nat) (v4 : Int32) (v5 : Int32) (I : SI) (J : SJ), p_Md_misses_L6 p1 p2 p3 post n v4 v5 I J → ∀ (H : Heap) (locs : List Loc) (ls : Array Slot), lv_has ls 6 [(0, .ref (Θ (0))), (1, .int p1), (2, .int p2), (3, .int p3), (4, .int v4), (5, .int v5)] → va_P D clA (xw 34 Θ (eM Θ κ) I J) H → va_S (xA 34 Θ sz) s.heap H locs → W p l e (headSpec WS rm_Md_misses).room s m args below meth c H locs 0 0 (MQ below (xQi D clA 34 Θ (eM Θ κ) sz post) args s 0 0 (xA 34 Θ sz)) (F0 m 6 ls []) := by
    intro n
    induction n with
    | zero =>
      intro v4 v5 I J h H locs ls hl hP hS
      exact h.elim
    | succ n ih =>
      intro v4 v5 I J h H locs ls hl hP hS
      unfold p_Md_misses_L6 at h
      refine lv_iload hx hb d_Md_misses_6 (lv_at hl 5 rfl) ?_
      refine lv_iconst (v := (2 : Int32)) hx hb d_Md_misses_8 (by decide) ?_
      refine lv_icmp_ge hx hb d_Md_misses_9 (tgt := 56) rfl (fun hc12 => ?_) (fun hc12 => ?_)
      · have h := h.1 hc12
        refine lv_iload hx hb d_Md_misses_56 (lv_at hl 4 rfl) ?_
        exact x_iret hx hb hr hlocks hP hS h d_Md_misses_58
      · have h := h.2 hc12
        refine lv_aload_n hx hb d_Md_misses_12 rfl (lv_at hl 0 rfl) ?_
        refine gfM_Md_13 C hP d_Md_misses_13 ?_
        refine lv_iconst (v := (2 : Int32)) hx hb d_Md_misses_16 (by decide) ?_
        refine lv_iload_n hx hb d_Md_misses_17 rfl (lv_at hl 1 rfl) ?_
        refine lv_imul hx hb d_Md_misses_18 ?_
        refine lv_iload hx hb d_Md_misses_19 (lv_at hl 5 rfl) ?_
        refine lv_iadd hx hb d_Md_misses_21 ?_
        obtain ⟨j3, ej3, h_j3, h⟩ := h
        refine x_iald hx hb hK hP (1) 0 (Nat.le_of_ble_eq_true rfl) eM_seen rfl ej3 h_j3 (by decide) d_Md_misses_22 ?_
        refine lv_if_lt hx hb d_Md_misses_23 (tgt := 50) rfl (fun hc11 => ?_) (fun hc11 => ?_)
        · have h := h.1 hc11
          exact tJ50 _ ih _ _ _ _ h _ _ _ (lv_sub hl [0, 1, 2, 3, 4, 5] rfl) hP hS
        · have h := h.2 hc11
          refine lv_aload_n hx hb d_Md_misses_26 rfl (lv_at hl 0 rfl) ?_
          refine gfM_Md_13 C hP d_Md_misses_27 ?_
          refine lv_iconst (v := (2 : Int32)) hx hb d_Md_misses_30 (by decide) ?_
          refine lv_iload_n hx hb d_Md_misses_31 rfl (lv_at hl 1 rfl) ?_
          refine lv_imul hx hb d_Md_misses_32 ?_
          refine lv_iload hx hb d_Md_misses_33 (lv_at hl 5 rfl) ?_
          refine lv_iadd hx hb d_Md_misses_35 ?_
          obtain ⟨j5, ej5, h_j5, h⟩ := h
          refine x_iald hx hb hK hP (1) 0 (Nat.le_of_ble_eq_true rfl) eM_seen rfl ej5 h_j5 (by decide) d_Md_misses_36 ?_
          refine lv_iload_n hx hb d_Md_misses_37 rfl (lv_at hl 2 rfl) ?_
          refine lv_iload_n hx hb d_Md_misses_38 rfl (lv_at hl 3 rfl) ?_
          refine lv_iload hx hb d_Md_misses_39 (lv_at hl 5 rfl) ?_
          refine x_gi (x_S C hP hS (c_Md_sentFor l D κ hΘ sz p2 p3 v5 I J _ h) q_Md_sentFor k_982 k_981 rfl rfl ⟨Nat.le_of_ble_eq_true rfl, Nat.le_of_ble_eq_true rfl⟩ rfl hl.1 rfl (Nat.le_of_ble_eq_true rfl) d_Md_misses_41) hS (fun r8 I6 J7 h H locs hP hS => ?_)
          refine lv_icmp_eq hx hb d_Md_misses_44 (tgt := 50) rfl (fun hc10 => ?_) (fun hc10 => ?_)
          · have h := h.1 hc10
            exact tJ50 _ ih _ _ _ _ h _ _ _ (lv_sub hl [0, 1, 2, 3, 4, 5] rfl) hP hS
          · have h := h.2 hc10
            obtain ⟨x9, ex9⟩ : ∃ y : Int32, y = v4 + (1 : Int32) := ⟨_, rfl⟩
            have h := h x9 ex9
            refine lv_iinc (k := 4) (v := x9) hx hb d_Md_misses_47 hl rfl (by rw [ex9]; rfl) (Nat.le_of_ble_eq_true rfl) (lv' := [(4, .int x9), (0, .ref (Θ (0))), (1, .int p1), (2, .int p2), (3, .int p3), (5, .int v5)]) rfl (fun ls hl => ?_)
            exact tJ50 _ ih _ _ _ _ h _ _ _ (lv_sub hl [1, 2, 3, 4, 0, 5] rfl) hP hS
  have hE := lg_entry_eq m [.ref (Θ (0)), .int p1, .int p2, .int p3] 6
  rw [← hargs] at hE
  rw [hE]
  have hl := lv_entry [.ref (Θ (0)), .int p1, .int p2, .int p3] (n := 6) (Nat.le_of_ble_eq_true rfl)
  generalize (lg_sl [.ref (Θ (0)), .int p1, .int p2, .int p3] ++ List.replicate (6 - (lg_sl [.ref (Θ (0)), .int p1, .int p2, .int p3]).length) Slot.unset).toArray = ls at hl ⊢
  have hl : lv_has ls 6 [(0, .ref (Θ (0))), (1, .int p1), (2, .int p2), (3, .int p3)] := hl
  unfold p_Md_misses at h
  refine lv_iconst (v := (0 : Int32)) hx hb d_Md_misses_0 (by decide) ?_
  refine lv_topi (fun x1 ex1 => ?_)
  have h := h x1 ex1
  refine lv_istore hx hb d_Md_misses_1 hl (Nat.le_of_ble_eq_true rfl) (lv' := [(4, .int x1), (0, .ref (Θ (0))), (1, .int p1), (2, .int p2), (3, .int p3)]) rfl (fun ls hl => ?_)
  refine lv_iconst (v := (0 : Int32)) hx hb d_Md_misses_3 (by decide) ?_
  refine lv_topi (fun x2 ex2 => ?_)
  have h := h x2 ex2
  refine lv_istore hx hb d_Md_misses_4 hl (Nat.le_of_ble_eq_true rfl) (lv' := [(5, .int x2), (4, .int x1), (0, .ref (Θ (0))), (1, .int p1), (2, .int p2), (3, .int p3)]) rfl (fun ls hl => ?_)
  obtain ⟨n13, h⟩ := h
  refine tL6 n13 _ _ _ _ h _ _ _ (lv_sub hl [2, 3, 4, 5, 1, 0] rfl) hP hS
set_option maxHeartbeats 4000000 in
set_option maxRecDepth 100000 in
theorem c_Md_nearest (l : Launch) (D : va_G) (κ : Nat → ClassId) {Θ : Nat → Nat} (hΘ : xJ 34 Θ) (sz : Nat) (p1 : Int64) (p3 : Int32) (I : SI) (J : SJ) (post : SI → SJ → Prop) (h : p_Md_nearest p1 p3 post I J) : Met l y_Md_nearest WS rm_Md_nearest (va_Pc [.ref (Θ (0)), .long p1, .int p3] (xPR D clA (tysA κ) 34 Θ (eM Θ κ) sz I J)) (xQv D clA 34 Θ (eM Θ κ) sz post) 0 0 (xA 34 Θ sz) := by
  refine xMet (cc := b_Md_nearest) (maxL := 11) (ret := none) (by decide) q_Md_nearest.1 ?_
  intro p e s m args below meth c s₁ B hml hv
  obtain ⟨hargs, hsz, hP, hK, hN, hG⟩ := hv
  have hx := B.exec
  have hb := B.bytes
  have hr := B.returns
  have hlocks := B.notSynchronized
  have hts := atoms_spec (ws := WS) B.pre
  have hown : s.vm.findClass R_Md = some m.cls := findClass_of_methodNamed B.named
  have C : xC p m c b_Md_nearest 11 s args R_Md D clA (tysA κ) 34 Θ sz := ⟨⟨hx, hb, hml, hown, hts⟩, hK, hN, hG, hsz⟩
  have hS : va_S (xA 34 Θ sz) s.heap s.heap [] := va_S.rf
  have tJ61 : ∀ (k14 : Int64 → Int32 → Int32 → SI → SJ → Prop), (∀ (v4 : Int64) (v6 : Int32) (v7 : Int32) (I : SI) (J : SJ), k14 v4 v6 v7 I J → ∀ (H : Heap) (locs : List Loc) (ls : Array Slot), lv_has ls 11 [(0, .ref (Θ (0))), (4, .long v4), (6, .int v6), (7, .int v7)] → va_P D clA (xw 34 Θ (eM Θ κ) I J) H → va_S (xA 34 Θ sz) s.heap H locs → W p l e (headSpec WS rm_Md_nearest).room s m args below meth c H locs 0 0 (MQ below (xQv D clA 34 Θ (eM Θ κ) sz post) args s 0 0 (xA 34 Θ sz)) (F0 m 14 ls [])) → ∀ (v4 : Int64) (v6 : Int32) (v7 : Int32) (I : SI) (J : SJ), p_Md_nearest_61 p1 p3 post k14 v4 v6 v7 I J → ∀ (H : Heap) (locs : List Loc) (ls : Array Slot), lv_has ls 11 [(0, .ref (Θ (0))), (4, .long v4), (6, .int v6), (7, .int v7)] → va_P D clA (xw 34 Θ (eM Θ κ) I J) H → va_S (xA 34 Θ sz) s.heap H locs → W p l e (headSpec WS rm_Md_nearest).room s m args below meth c H locs 0 0 (MQ below (xQv D clA 34 Θ (eM Θ κ) sz post) args s 0 0 (xA 34 Θ sz)) (F0 m 61 ls []) := by
    intro k14 hk14 v4 v6 v7 I J h H locs ls hl hP hS
    unfold p_Md_nearest_61 at h
    obtain ⟨x9, ex9⟩ : ∃ y : Int32, y = v7 + (1 : Int32) := ⟨_, rfl⟩
    have h := h x9 ex9
    refine lv_iinc (k := 3) (v := x9) hx hb d_Md_nearest_61 hl rfl (by rw [ex9]; rfl) (Nat.le_of_ble_eq_true rfl) (lv' := [(7, .int x9), (0, .ref (Θ (0))), (4, .long v4), (6, .int v6)]) rfl (fun ls hl => ?_)
    refine lv_goto hx hb d_Md_nearest_64 (tgt := 14) rfl ?_
    exact hk14 _ _ _ _ _ h _ _ _ (lv_sub hl [1, 2, 3, 0] rfl) hP hS
  have tL14 : ∀ (k67 : SI → SJ → Prop), (∀ (I : SI) (J : SJ), k67 I J → ∀ (H : Heap) (locs : List Loc) (ls : Array Slot), lv_has ls 11 [(0, .ref (Θ (0)))] → va_P D clA (xw 34 Θ (eM Θ κ) I J) H → va_S (xA 34 Θ sz) s.heap H locs → W p l e (headSpec WS rm_Md_nearest).room s m args below meth c H locs 0 0 (MQ below (xQv D clA 34 Θ (eM Θ κ) sz post) args s 0 0 (xA 34 Θ sz)) (F0 m 67 ls [])) → ∀ (n : Nat) (v4 : Int64) (v6 : Int32) (v7 : Int32) (I : SI) (J : SJ), p_Md_nearest_L14 p1 p3 post k67 n v4 v6 v7 I J → ∀ (H : Heap) (locs : List Loc) (ls : Array Slot), lv_has ls 11 [(0, .ref (Θ (0))), (4, .long v4), (6, .int v6), (7, .int v7)] → va_P D clA (xw 34 Θ (eM Θ κ) I J) H → va_S (xA 34 Θ sz) s.heap H locs → W p l e (headSpec WS rm_Md_nearest).room s m args below meth c H locs 0 0 (MQ below (xQv D clA 34 Θ (eM Θ κ) sz post) args s 0 0 (xA 34 Θ sz)) (F0 m 14 ls []) := by
    intro k67 hk67 n
    induction n with
    | zero =>
      intro v4 v6 v7 I J h H locs ls hl hP hS
      exact h.elim
    | succ n ih =>
      intro v4 v6 v7 I J h H locs ls hl hP hS
      unfold p_Md_nearest_L14 at h
      refine lv_iload hx hb d_Md_nearest_14 (lv_at hl 3 rfl) ?_
      refine lv_bipush (v := (72 : Int32)) hx hb d_Md_nearest_16 (by decide) ?_
      refine lv_icmp_ge hx hb d_Md_nearest_18 (tgt := 67) rfl (fun hc14 => ?_) (fun hc14 => ?_)
      · have h := h.1 hc14
        exact hk67 _ _ h _ _ _ (lv_sub hl [0] rfl) hP hS
      · have h := h.2 hc14
        refine lv_aload_n hx hb d_Md_nearest_21 rfl (lv_at hl 0 rfl) ?_
        refine gfM_Md_13 C hP d_Md_nearest_22 ?_
        refine lv_iload hx hb d_Md_nearest_25 (lv_at hl 3 rfl) ?_
        refine lv_iconst (v := (-1 : Int32)) hx hb d_Md_nearest_27 (by decide) ?_
        obtain ⟨j7, ej7, h_j7, h⟩ := h
        refine x_iast hx hb hK hΘ hP hS (1) 0 (Nat.le_of_ble_eq_true rfl) eM_seen rfl ej7 h_j7 (by decide) d_Md_nearest_28 (fun H locs hP hS => ?_)
        obtain ⟨I8, eI8⟩ : ∃ y, y = xu I (1) j7 (-1 : Int32) := ⟨_, rfl⟩
        have hP : va_P D clA (xw 34 Θ (eM Θ κ) I8 J) H := by rw [eI8]; exact hP
        have h := h I8 eI8
        refine lv_iload hx hb d_Md_nearest_29 (lv_at hl 3 rfl) ?_
        refine lv_iconst (v := (4 : Int32)) hx hb d_Md_nearest_31 (by decide) ?_
        refine lv_irem hx hb d_Md_nearest_32 (by decide) ?_
        refine lv_iconst (v := (3 : Int32)) hx hb d_Md_nearest_33 (by decide) ?_
        refine lv_icmp_eq hx hb d_Md_nearest_34 (tgt := 61) rfl (fun hc13 => ?_) (fun hc13 => ?_)
        · have h := h.1 hc13
          exact tJ61 _ ih _ _ _ _ _ h _ _ _ (lv_sub hl [0, 1, 2, 3] rfl) hP hS
        · have h := h.2 hc13
          refine lv_aload_n hx hb d_Md_nearest_37 rfl (lv_at hl 0 rfl) ?_
          refine gfM_Md_13 C hP d_Md_nearest_38 ?_
          refine lv_iload hx hb d_Md_nearest_41 (lv_at hl 3 rfl) ?_
          refine lv_lload hx hb d_Md_nearest_43 (lv_at hl 1 rfl) ?_
          refine lv_bipush (v := (17 : Int32)) hx hb d_Md_nearest_45 (by decide) ?_
          refine lv_iload hx hb d_Md_nearest_47 (lv_at hl 2 rfl) ?_
          refine lv_imul hx hb d_Md_nearest_49 ?_
          refine lv_bipush (v := (54 : Int32)) hx hb d_Md_nearest_50 (by decide) ?_
          refine lv_irem hx hb d_Md_nearest_52 (by decide) ?_
          refine lv_lshr (v := xlr v4 (xrm ((17 : Int32) * v6) (54 : Int32))) hx hb d_Md_nearest_53 rfl ?_
          refine lv_l2i (v := Int64.toInt32 (xlr v4 (xrm ((17 : Int32) * v6) (54 : Int32)))) hx hb d_Md_nearest_54 rfl ?_
          refine lv_iconst (v := (1 : Int32)) hx hb d_Md_nearest_55 (by decide) ?_
          refine lv_iand hx hb d_Md_nearest_56 ?_
          obtain ⟨j10, ej10, h_j10, h⟩ := h
          refine x_iast hx hb hK hΘ hP hS (1) 0 (Nat.le_of_ble_eq_true rfl) eM_seen rfl ej10 h_j10 (by decide) d_Md_nearest_57 (fun H locs hP hS => ?_)
          obtain ⟨I11, eI11⟩ : ∃ y, y = xu I8 (1) j10 ((Int64.toInt32 (xlr v4 (xrm ((17 : Int32) * v6) (54 : Int32)))) &&& (1 : Int32)) := ⟨_, rfl⟩
          have hP : va_P D clA (xw 34 Θ (eM Θ κ) I11 J) H := by rw [eI11]; exact hP
          have h := h I11 eI11
          obtain ⟨x12, ex12⟩ : ∃ y : Int32, y = v6 + (1 : Int32) := ⟨_, rfl⟩
          have h := h x12 ex12
          refine lv_iinc (k := 2) (v := x12) hx hb d_Md_nearest_58 hl rfl (by rw [ex12]; rfl) (Nat.le_of_ble_eq_true rfl) (lv' := [(6, .int x12), (0, .ref (Θ (0))), (4, .long v4), (7, .int v7)]) rfl (fun ls hl => ?_)
          exact tJ61 _ ih _ _ _ _ _ h _ _ _ (lv_sub hl [1, 2, 0, 3] rfl) hP hS
  have tL70 : ∀ (k95 : SI → SJ → Prop), (∀ (I : SI) (J : SJ), k95 I J → ∀ (H : Heap) (locs : List Loc) (ls : Array Slot), lv_has ls 11 [(0, .ref (Θ (0)))] → va_P D clA (xw 34 Θ (eM Θ κ) I J) H → va_S (xA 34 Θ sz) s.heap H locs → W p l e (headSpec WS rm_Md_nearest).room s m args below meth c H locs 0 0 (MQ below (xQv D clA 34 Θ (eM Θ κ) sz post) args s 0 0 (xA 34 Θ sz)) (F0 m 95 ls [])) → ∀ (n : Nat) (v7 : Int32) (I : SI) (J : SJ), p_Md_nearest_L70 p1 p3 post k95 n v7 I J → ∀ (H : Heap) (locs : List Loc) (ls : Array Slot), lv_has ls 11 [(0, .ref (Θ (0))), (7, .int v7)] → va_P D clA (xw 34 Θ (eM Θ κ) I J) H → va_S (xA 34 Θ sz) s.heap H locs → W p l e (headSpec WS rm_Md_nearest).room s m args below meth c H locs 0 0 (MQ below (xQv D clA 34 Θ (eM Θ κ) sz post) args s 0 0 (xA 34 Θ sz)) (F0 m 70 ls []) := by
    intro k95 hk95 n
    induction n with
    | zero =>
      intro v7 I J h H locs ls hl hP hS
      exact h.elim
    | succ n ih =>
      intro v7 I J h H locs ls hl hP hS
      unfold p_Md_nearest_L70 at h
      refine lv_iload hx hb d_Md_nearest_70 (lv_at hl 1 rfl) ?_
      refine lv_bipush (v := (16 : Int32)) hx hb d_Md_nearest_72 (by decide) ?_
      refine lv_icmp_ge hx hb d_Md_nearest_74 (tgt := 95) rfl (fun hc21 => ?_) (fun hc21 => ?_)
      · have h := h.1 hc21
        exact hk95 _ _ h _ _ _ (lv_sub hl [0] rfl) hP hS
      · have h := h.2 hc21
        refine lv_aload_n hx hb d_Md_nearest_77 rfl (lv_at hl 0 rfl) ?_
        refine gfM_Md_17 C hP d_Md_nearest_78 ?_
        refine lv_sipush (v := (576 : Int32)) hx hb d_Md_nearest_81 (by decide) ?_
        refine lv_iload hx hb d_Md_nearest_84 (lv_at hl 1 rfl) ?_
        refine lv_iadd hx hb d_Md_nearest_86 ?_
        refine lv_iconst (v := (0 : Int32)) hx hb d_Md_nearest_87 (by decide) ?_
        obtain ⟨j18, ej18, h_j18, h⟩ := h
        refine x_iast hx hb hK hΘ hP hS (2) 0 (Nat.le_of_ble_eq_true rfl) eM_cost rfl ej18 h_j18 (by decide) d_Md_nearest_88 (fun H locs hP hS => ?_)
        obtain ⟨I19, eI19⟩ : ∃ y, y = xu I (2) j18 (0 : Int32) := ⟨_, rfl⟩
        have hP : va_P D clA (xw 34 Θ (eM Θ κ) I19 J) H := by rw [eI19]; exact hP
        have h := h I19 eI19
        obtain ⟨x20, ex20⟩ : ∃ y : Int32, y = v7 + (1 : Int32) := ⟨_, rfl⟩
        have h := h x20 ex20
        refine lv_iinc (k := 1) (v := x20) hx hb d_Md_nearest_89 hl rfl (by rw [ex20]; rfl) (Nat.le_of_ble_eq_true rfl) (lv' := [(7, .int x20), (0, .ref (Θ (0)))]) rfl (fun ls hl => ?_)
        refine lv_goto hx hb d_Md_nearest_92 (tgt := 70) rfl ?_
        exact ih _ _ _ h _ _ _ (lv_sub hl [1, 0] rfl) hP hS
  have tJ221 : ∀ (k107 : Int32 → Int32 → SI → SJ → Prop), (∀ (v7 : Int32) (v8 : Int32) (I : SI) (J : SJ), k107 v7 v8 I J → ∀ (H : Heap) (locs : List Loc) (ls : Array Slot), lv_has ls 11 [(0, .ref (Θ (0))), (7, .int v7), (8, .int v8)] → va_P D clA (xw 34 Θ (eM Θ κ) I J) H → va_S (xA 34 Θ sz) s.heap H locs → W p l e (headSpec WS rm_Md_nearest).room s m args below meth c H locs 0 0 (MQ below (xQv D clA 34 Θ (eM Θ κ) sz post) args s 0 0 (xA 34 Θ sz)) (F0 m 107 ls [])) → ∀ (v7 : Int32) (v8 : Int32) (s0 : Int32) (s1 : Int32) (I : SI) (J : SJ), p_Md_nearest_221 p1 p3 post k107 v7 v8 s0 s1 I J → ∀ (H : Heap) (locs : List Loc) (ls : Array Slot), lv_has ls 11 [(0, .ref (Θ (0))), (7, .int v7), (8, .int v8)] → va_P D clA (xw 34 Θ (eM Θ κ) I J) H → va_S (xA 34 Θ sz) s.heap H locs → W p l e (headSpec WS rm_Md_nearest).room s m args below meth c H locs 0 0 (MQ below (xQv D clA 34 Θ (eM Θ κ) sz post) args s 0 0 (xA 34 Θ sz)) (F0 m 221 ls [.int s0, .int s1, .ref (Θ (2))]) := by
    intro k107 hk107 v7 v8 s0 s1 I J h H locs ls hl hP hS
    unfold p_Md_nearest_221 at h
    obtain ⟨j31, ej31, h_j31, h⟩ := h
    refine x_iast hx hb hK hΘ hP hS (2) 0 (Nat.le_of_ble_eq_true rfl) eM_cost rfl ej31 h_j31 (by decide) d_Md_nearest_221 (fun H locs hP hS => ?_)
    obtain ⟨I32, eI32⟩ : ∃ y, y = xu I (2) j31 s0 := ⟨_, rfl⟩
    have hP : va_P D clA (xw 34 Θ (eM Θ κ) I32 J) H := by rw [eI32]; exact hP
    have h := h I32 eI32
    obtain ⟨x33, ex33⟩ : ∃ y : Int32, y = v8 + (1 : Int32) := ⟨_, rfl⟩
    have h := h x33 ex33
    refine lv_iinc (k := 2) (v := x33) hx hb d_Md_nearest_222 hl rfl (by rw [ex33]; rfl) (Nat.le_of_ble_eq_true rfl) (lv' := [(8, .int x33), (0, .ref (Θ (0))), (7, .int v7)]) rfl (fun ls hl => ?_)
    refine lv_goto hx hb d_Md_nearest_225 (tgt := 107) rfl ?_
    exact hk107 _ _ _ _ h _ _ _ (lv_sub hl [1, 2, 0] rfl) hP hS
  have tJ193 : ∀ (k107 : Int32 → Int32 → SI → SJ → Prop), (∀ (v7 : Int32) (v8 : Int32) (I : SI) (J : SJ), k107 v7 v8 I J → ∀ (H : Heap) (locs : List Loc) (ls : Array Slot), lv_has ls 11 [(0, .ref (Θ (0))), (7, .int v7), (8, .int v8)] → va_P D clA (xw 34 Θ (eM Θ κ) I J) H → va_S (xA 34 Θ sz) s.heap H locs → W p l e (headSpec WS rm_Md_nearest).room s m args below meth c H locs 0 0 (MQ below (xQv D clA 34 Θ (eM Θ κ) sz post) args s 0 0 (xA 34 Θ sz)) (F0 m 107 ls [])) → ∀ (v7 : Int32) (v8 : Int32) (v9 : Int32) (s0 : Int32) (I : SI) (J : SJ), p_Md_nearest_193 p1 p3 post k107 v7 v8 v9 s0 I J → ∀ (H : Heap) (locs : List Loc) (ls : Array Slot), lv_has ls 11 [(0, .ref (Θ (0))), (7, .int v7), (8, .int v8), (9, .int v9)] → va_P D clA (xw 34 Θ (eM Θ κ) I J) H → va_S (xA 34 Θ sz) s.heap H locs → W p l e (headSpec WS rm_Md_nearest).room s m args below meth c H locs 0 0 (MQ below (xQv D clA 34 Θ (eM Θ κ) sz post) args s 0 0 (xA 34 Θ sz)) (F0 m 193 ls [.int s0]) := by
    intro k107 hk107 v7 v8 v9 s0 I J h H locs ls hl hP hS
    unfold p_Md_nearest_193 at h
    refine lv_istore hx hb d_Md_nearest_193 hl (Nat.le_of_ble_eq_true rfl) (lv' := [(10, .int s0), (0, .ref (Θ (0))), (7, .int v7), (8, .int v8), (9, .int v9)]) rfl (fun ls hl => ?_)
    refine lv_aload_n hx hb d_Md_nearest_195 rfl (lv_at hl 1 rfl) ?_
    refine gfM_Md_17 C hP d_Md_nearest_196 ?_
    refine lv_bipush (v := (16 : Int32)) hx hb d_Md_nearest_199 (by decide) ?_
    refine lv_iload hx hb d_Md_nearest_201 (lv_at hl 2 rfl) ?_
    refine lv_imul hx hb d_Md_nearest_203 ?_
    refine lv_iload hx hb d_Md_nearest_204 (lv_at hl 3 rfl) ?_
    refine lv_iadd hx hb d_Md_nearest_206 ?_
    refine lv_iload hx hb d_Md_nearest_207 (lv_at hl 4 rfl) ?_
    refine lv_iload hx hb d_Md_nearest_209 (lv_at hl 0 rfl) ?_
    refine lv_icmp_gt hx hb d_Md_nearest_211 (tgt := 219) rfl (fun hc34 => ?_) (fun hc34 => ?_)
    · have h := h.1 hc34
      refine lv_iload hx hb d_Md_nearest_219 (lv_at hl 0 rfl) ?_
      exact tJ221 _ hk107 _ _ _ _ _ _ h _ _ _ (lv_sub hl [1, 2, 3] rfl) hP hS
    · have h := h.2 hc34
      refine lv_iload hx hb d_Md_nearest_214 (lv_at hl 4 rfl) ?_
      refine lv_goto hx hb d_Md_nearest_216 (tgt := 221) rfl ?_
      exact tJ221 _ hk107 _ _ _ _ _ _ h _ _ _ (lv_sub hl [1, 2, 3] rfl) hP hS
  have tL107 : ∀ (k228 : Int32 → SI → SJ → Prop), (∀ (v7 : Int32) (I : SI) (J : SJ), k228 v7 I J → ∀ (H : Heap) (locs : List Loc) (ls : Array Slot), lv_has ls 11 [(0, .ref (Θ (0))), (7, .int v7)] → va_P D clA (xw 34 Θ (eM Θ κ) I J) H → va_S (xA 34 Θ sz) s.heap H locs → W p l e (headSpec WS rm_Md_nearest).room s m args below meth c H locs 0 0 (MQ below (xQv D clA 34 Θ (eM Θ κ) sz post) args s 0 0 (xA 34 Θ sz)) (F0 m 228 ls [])) → ∀ (n : Nat) (v7 : Int32) (v8 : Int32) (I : SI) (J : SJ), p_Md_nearest_L107 p1 p3 post k228 n v7 v8 I J → ∀ (H : Heap) (locs : List Loc) (ls : Array Slot), lv_has ls 11 [(0, .ref (Θ (0))), (7, .int v7), (8, .int v8)] → va_P D clA (xw 34 Θ (eM Θ κ) I J) H → va_S (xA 34 Θ sz) s.heap H locs → W p l e (headSpec WS rm_Md_nearest).room s m args below meth c H locs 0 0 (MQ below (xQv D clA 34 Θ (eM Θ κ) sz post) args s 0 0 (xA 34 Θ sz)) (F0 m 107 ls []) := by
    intro k228 hk228 n
    induction n with
    | zero =>
      intro v7 v8 I J h H locs ls hl hP hS
      exact h.elim
    | succ n ih =>
      intro v7 v8 I J h H locs ls hl hP hS
      unfold p_Md_nearest_L107 at h
      refine lv_iload hx hb d_Md_nearest_107 (lv_at hl 2 rfl) ?_
      refine lv_bipush (v := (16 : Int32)) hx hb d_Md_nearest_109 (by decide) ?_
      refine lv_icmp_ge hx hb d_Md_nearest_111 (tgt := 228) rfl (fun hc40 => ?_) (fun hc40 => ?_)
      · have h := h.1 hc40
        exact hk228 _ _ _ h _ _ _ (lv_sub hl [0, 1] rfl) hP hS
      · have h := h.2 hc40
        refine lv_aload_n hx hb d_Md_nearest_114 rfl (lv_at hl 0 rfl) ?_
        refine lv_iload hx hb d_Md_nearest_115 (lv_at hl 1 rfl) ?_
        refine lv_iload hx hb d_Md_nearest_117 (lv_at hl 2 rfl) ?_
        refine lv_iconst (v := (0 : Int32)) hx hb d_Md_nearest_119 (by decide) ?_
        refine x_gi (x_V C hP hS (Nat.le_of_ble_eq_true rfl) (eM_Md _ _) rfl (c_Md_misses l D κ hΘ sz v7 v8 (0 : Int32) I J _ h) q_Md_misses k_994 sel_Md_misses k_992 rfl rfl ⟨Nat.le_of_ble_eq_true rfl, Nat.le_of_ble_eq_true rfl⟩ rfl hl.1 rfl (Nat.le_of_ble_eq_true rfl) d_Md_nearest_120) hS (fun r28 I26 J27 h H locs hP hS => ?_)
        refine lv_aload_n hx hb d_Md_nearest_123 rfl (lv_at hl 0 rfl) ?_
        refine gfM_Md_17 C hP d_Md_nearest_124 ?_
        refine lv_bipush (v := (16 : Int32)) hx hb d_Md_nearest_127 (by decide) ?_
        refine lv_iload hx hb d_Md_nearest_129 (lv_at hl 1 rfl) ?_
        refine lv_imul hx hb d_Md_nearest_131 ?_
        refine lv_bipush (v := (16 : Int32)) hx hb d_Md_nearest_132 (by decide) ?_
        refine lv_iadd hx hb d_Md_nearest_134 ?_
        refine lv_iload hx hb d_Md_nearest_135 (lv_at hl 2 rfl) ?_
        refine lv_iconst (v := (1 : Int32)) hx hb d_Md_nearest_137 (by decide) ?_
        refine lv_ishl hx hb d_Md_nearest_138 ?_
        refine lv_bipush (v := (15 : Int32)) hx hb d_Md_nearest_139 (by decide) ?_
        refine lv_iand hx hb d_Md_nearest_141 ?_
        refine lv_iadd hx hb d_Md_nearest_142 ?_
        obtain ⟨j29, ej29, h_j29, h⟩ := h
        refine x_iald hx hb hK hP (2) 0 (Nat.le_of_ble_eq_true rfl) eM_cost rfl ej29 h_j29 (by decide) d_Md_nearest_143 ?_
        refine lv_iadd hx hb d_Md_nearest_144 ?_
        refine lv_topi (fun x30 ex30 => ?_)
        have h := h x30 ex30
        refine lv_istore hx hb d_Md_nearest_145 hl (Nat.le_of_ble_eq_true rfl) (lv' := [(9, .int x30), (0, .ref (Θ (0))), (7, .int v7), (8, .int v8)]) rfl (fun ls hl => ?_)
        refine lv_iload hx hb d_Md_nearest_147 (lv_at hl 2 rfl) ?_
        refine lv_bipush (v := (32 : Int32)) hx hb d_Md_nearest_149 (by decide) ?_
        refine lv_icmp_ge hx hb d_Md_nearest_151 (tgt := 190) rfl (fun hc39 => ?_) (fun hc39 => ?_)
        · have h := h.1 hc39
          refine lv_sipush (v := (1000 : Int32)) hx hb d_Md_nearest_190 (by decide) ?_
          exact tJ193 _ ih _ _ _ _ _ _ h _ _ _ (lv_sub hl [1, 2, 3, 0] rfl) hP hS
        · have h := h.2 hc39
          refine lv_aload_n hx hb d_Md_nearest_154 rfl (lv_at hl 1 rfl) ?_
          refine lv_iload hx hb d_Md_nearest_155 (lv_at hl 2 rfl) ?_
          refine lv_iload hx hb d_Md_nearest_157 (lv_at hl 3 rfl) ?_
          refine lv_iconst (v := (1 : Int32)) hx hb d_Md_nearest_159 (by decide) ?_
          refine x_gi (x_V C hP hS (Nat.le_of_ble_eq_true rfl) (eM_Md _ _) rfl (c_Md_misses l D κ hΘ sz v7 v8 (1 : Int32) I26 J27 _ h) q_Md_misses k_994 sel_Md_misses k_992 rfl rfl ⟨Nat.le_of_ble_eq_true rfl, Nat.le_of_ble_eq_true rfl⟩ rfl hl.1 rfl (Nat.le_of_ble_eq_true rfl) d_Md_nearest_160) hS (fun r37 I35 J36 h H locs hP hS => ?_)
          refine lv_aload_n hx hb d_Md_nearest_163 rfl (lv_at hl 1 rfl) ?_
          refine gfM_Md_17 C hP d_Md_nearest_164 ?_
          refine lv_bipush (v := (16 : Int32)) hx hb d_Md_nearest_167 (by decide) ?_
          refine lv_iload hx hb d_Md_nearest_169 (lv_at hl 2 rfl) ?_
          refine lv_imul hx hb d_Md_nearest_171 ?_
          refine lv_bipush (v := (16 : Int32)) hx hb d_Md_nearest_172 (by decide) ?_
          refine lv_iadd hx hb d_Md_nearest_174 ?_
          refine lv_iload hx hb d_Md_nearest_175 (lv_at hl 3 rfl) ?_
          refine lv_iconst (v := (1 : Int32)) hx hb d_Md_nearest_177 (by decide) ?_
          refine lv_ishl hx hb d_Md_nearest_178 ?_
          refine lv_bipush (v := (15 : Int32)) hx hb d_Md_nearest_179 (by decide) ?_
          refine lv_iand hx hb d_Md_nearest_181 ?_
          refine lv_iconst (v := (1 : Int32)) hx hb d_Md_nearest_182 (by decide) ?_
          refine lv_ior hx hb d_Md_nearest_183 ?_
          refine lv_iadd hx hb d_Md_nearest_184 ?_
          obtain ⟨j38, ej38, h_j38, h⟩ := h
          refine x_iald hx hb hK hP (2) 0 (Nat.le_of_ble_eq_true rfl) eM_cost rfl ej38 h_j38 (by decide) d_Md_nearest_185 ?_
          refine lv_iadd hx hb d_Md_nearest_186 ?_
          refine lv_goto hx hb d_Md_nearest_187 (tgt := 193) rfl ?_
          exact tJ193 _ ih _ _ _ _ _ _ h _ _ _ (lv_sub hl [1, 2, 3, 0] rfl) hP hS
  have tL99 : ∀ (k234 : SI → SJ → Prop), (∀ (I : SI) (J : SJ), k234 I J → ∀ (H : Heap) (locs : List Loc) (ls : Array Slot), lv_has ls 11 [(0, .ref (Θ (0)))] → va_P D clA (xw 34 Θ (eM Θ κ) I J) H → va_S (xA 34 Θ sz) s.heap H locs → W p l e (headSpec WS rm_Md_nearest).room s m args below meth c H locs 0 0 (MQ below (xQv D clA 34 Θ (eM Θ κ) sz post) args s 0 0 (xA 34 Θ sz)) (F0 m 234 ls [])) → ∀ (n : Nat) (v7 : Int32) (I : SI) (J : SJ), p_Md_nearest_L99 p1 p3 post k234 n v7 I J → ∀ (H : Heap) (locs : List Loc) (ls : Array Slot), lv_has ls 11 [(0, .ref (Θ (0))), (7, .int v7)] → va_P D clA (xw 34 Θ (eM Θ κ) I J) H → va_S (xA 34 Θ sz) s.heap H locs → W p l e (headSpec WS rm_Md_nearest).room s m args below meth c H locs 0 0 (MQ below (xQv D clA 34 Θ (eM Θ κ) sz post) args s 0 0 (xA 34 Θ sz)) (F0 m 99 ls []) := by
    intro k234 hk234 n
    induction n with
    | zero =>
      intro v7 I J h H locs ls hl hP hS
      exact h.elim
    | succ n ih =>
      intro v7 I J h H locs ls hl hP hS
      unfold p_Md_nearest_L99 at h
      refine lv_iload hx hb d_Md_nearest_99 (lv_at hl 1 rfl) ?_
      refine lv_if_lt hx hb d_Md_nearest_101 (tgt := 234) rfl (fun hc46 => ?_) (fun hc46 => ?_)
      · have h := h.1 hc46
        exact hk234 _ _ h _ _ _ (lv_sub hl [0] rfl) hP hS
      · have h := h.2 hc46
        refine lv_iconst (v := (0 : Int32)) hx hb d_Md_nearest_104 (by decide) ?_
        refine lv_topi (fun x25 ex25 => ?_)
        have h := h x25 ex25
        refine lv_istore hx hb d_Md_nearest_105 hl (Nat.le_of_ble_eq_true rfl) (lv' := [(8, .int x25), (0, .ref (Θ (0))), (7, .int v7)]) rfl (fun ls hl => ?_)
        obtain ⟨n45, h⟩ := h
        refine tL107 _ ?_ n45 _ _ _ _ h _ _ _ (lv_sub hl [1, 2, 0] rfl) hP hS
        · intro z41 I42 J43 h H locs ls hl hP hS
          obtain ⟨x44, ex44⟩ : ∃ y : Int32, y = z41 + (-1 : Int32) := ⟨_, rfl⟩
          have h := h x44 ex44
          refine lv_iinc (k := 1) (v := x44) hx hb d_Md_nearest_228 hl rfl (by rw [ex44]; rfl) (Nat.le_of_ble_eq_true rfl) (lv' := [(7, .int x44), (0, .ref (Θ (0)))]) rfl (fun ls hl => ?_)
          refine lv_goto hx hb d_Md_nearest_231 (tgt := 99) rfl ?_
          exact ih _ _ _ h _ _ _ (lv_sub hl [1, 0] rfl) hP hS
  have tJ318 : ∀ (k255 : Int32 → Int32 → SI → SJ → Prop), (∀ (v7 : Int32) (v8 : Int32) (I : SI) (J : SJ), k255 v7 v8 I J → ∀ (H : Heap) (locs : List Loc) (ls : Array Slot), lv_has ls 11 [(0, .ref (Θ (0))), (7, .int v7), (8, .int v8)] → va_P D clA (xw 34 Θ (eM Θ κ) I J) H → va_S (xA 34 Θ sz) s.heap H locs → W p l e (headSpec WS rm_Md_nearest).room s m args below meth c H locs 0 0 (MQ below (xQv D clA 34 Θ (eM Θ κ) sz post) args s 0 0 (xA 34 Θ sz)) (F0 m 255 ls [])) → ∀ (v7 : Int32) (v8 : Int32) (s0 : Int32) (I : SI) (J : SJ), p_Md_nearest_318 p1 p3 post k255 v7 v8 s0 I J → ∀ (H : Heap) (locs : List Loc) (ls : Array Slot), lv_has ls 11 [(0, .ref (Θ (0))), (7, .int v7), (8, .int v8)] → va_P D clA (xw 34 Θ (eM Θ κ) I J) H → va_S (xA 34 Θ sz) s.heap H locs → W p l e (headSpec WS rm_Md_nearest).room s m args below meth c H locs 0 0 (MQ below (xQv D clA 34 Θ (eM Θ κ) sz post) args s 0 0 (xA 34 Θ sz)) (F0 m 318 ls [.int s0]) := by
    intro k255 hk255 v7 v8 s0 I J h H locs ls hl hP hS
    unfold p_Md_nearest_318 at h
    refine lv_istore hx hb d_Md_nearest_318 hl (Nat.le_of_ble_eq_true rfl) (lv' := [(10, .int s0), (0, .ref (Θ (0))), (7, .int v7), (8, .int v8)]) rfl (fun ls hl => ?_)
    refine lv_aload_n hx hb d_Md_nearest_320 rfl (lv_at hl 1 rfl) ?_
    refine lv_aload_n hx hb d_Md_nearest_321 rfl (lv_at hl 1 rfl) ?_
    refine gfM_Md_20 C hP d_Md_nearest_322 ?_
    refine lv_iconst (v := (1 : Int32)) hx hb d_Md_nearest_325 (by decide) ?_
    refine lv_lshl (v := xll (J 0 3) (1 : Int32)) hx hb d_Md_nearest_326 rfl ?_
    refine lv_iload hx hb d_Md_nearest_327 (lv_at hl 0 rfl) ?_
    refine lv_i2l (v := Int32.toInt64 s0) hx hb d_Md_nearest_329 rfl ?_
    refine lv_lor hx hb d_Md_nearest_330 ?_
    refine pfM_Md_20 C hΘ hP hS d_Md_nearest_331 (fun H locs hP hS => ?_)
    obtain ⟨J59, eJ59⟩ : ∃ y, y = xv J (0) 3 ((xll (J 0 3) (1 : Int32)) ||| (Int32.toInt64 s0)) := ⟨_, rfl⟩
    have hP : va_P D clA (xw 34 Θ (eM Θ κ) I J59) H := by rw [eJ59]; exact hP
    have h := h J59 eJ59
    refine lv_iload hx hb d_Md_nearest_334 (lv_at hl 2 rfl) ?_
    refine lv_iconst (v := (1 : Int32)) hx hb d_Md_nearest_336 (by decide) ?_
    refine lv_ishl hx hb d_Md_nearest_337 ?_
    refine lv_iload hx hb d_Md_nearest_338 (lv_at hl 0 rfl) ?_
    refine lv_ior hx hb d_Md_nearest_340 ?_
    refine lv_bipush (v := (15 : Int32)) hx hb d_Md_nearest_341 (by decide) ?_
    refine lv_iand hx hb d_Md_nearest_343 ?_
    refine lv_topi (fun x60 ex60 => ?_)
    have h := h x60 ex60
    refine lv_istore hx hb d_Md_nearest_344 hl (Nat.le_of_ble_eq_true rfl) (lv' := [(7, .int x60), (10, .int s0), (0, .ref (Θ (0))), (8, .int v8)]) rfl (fun ls hl => ?_)
    obtain ⟨x61, ex61⟩ : ∃ y : Int32, y = v8 + (1 : Int32) := ⟨_, rfl⟩
    have h := h x61 ex61
    refine lv_iinc (k := 3) (v := x61) hx hb d_Md_nearest_346 hl rfl (by rw [ex61]; rfl) (Nat.le_of_ble_eq_true rfl) (lv' := [(8, .int x61), (7, .int x60), (10, .int s0), (0, .ref (Θ (0)))]) rfl (fun ls hl => ?_)
    refine lv_goto hx hb d_Md_nearest_349 (tgt := 255) rfl ?_
    exact hk255 _ _ _ _ h _ _ _ (lv_sub hl [3, 1, 0] rfl) hP hS
  have tL255 : ∀ (n : Nat) (v7 : Int32) (v8 : Int32) (I : SI) (J : SJ), p_Md_nearest_L255 p1 p3 post n v7 v8 I J → ∀ (H : Heap) (locs : List Loc) (ls : Array Slot), lv_has ls 11 [(0, .ref (Θ (0))), (7, .int v7), (8, .int v8)] → va_P D clA (xw 34 Θ (eM Θ κ) I J) H → va_S (xA 34 Θ sz) s.heap H locs → W p l e (headSpec WS rm_Md_nearest).room s m args below meth c H locs 0 0 (MQ below (xQv D clA 34 Θ (eM Θ κ) sz post) args s 0 0 (xA 34 Θ sz)) (F0 m 255 ls []) := by
    intro n
    induction n with
    | zero =>
      intro v7 v8 I J h H locs ls hl hP hS
      exact h.elim
    | succ n ih =>
      intro v7 v8 I J h H locs ls hl hP hS
      unfold p_Md_nearest_L255 at h
      refine lv_iload hx hb d_Md_nearest_255 (lv_at hl 2 rfl) ?_
      refine lv_bipush (v := (36 : Int32)) hx hb d_Md_nearest_257 (by decide) ?_
      refine lv_icmp_ge hx hb d_Md_nearest_259 (tgt := 352) rfl (fun hc63 => ?_) (fun hc63 => ?_)
      · have h := h.1 hc63
        exact x_vret hx hb hr hlocks hP hS h d_Md_nearest_352
      · have h := h.2 hc63
        refine lv_aload_n hx hb d_Md_nearest_262 rfl (lv_at hl 0 rfl) ?_
        refine lv_iload hx hb d_Md_nearest_263 (lv_at hl 2 rfl) ?_
        refine lv_iload hx hb d_Md_nearest_265 (lv_at hl 1 rfl) ?_
        refine lv_iconst (v := (0 : Int32)) hx hb d_Md_nearest_267 (by decide) ?_
        refine x_gi (x_V C hP hS (Nat.le_of_ble_eq_true rfl) (eM_Md _ _) rfl (c_Md_misses l D κ hΘ sz v8 v7 (0 : Int32) I J _ h) q_Md_misses k_994 sel_Md_misses k_992 rfl rfl ⟨Nat.le_of_ble_eq_true rfl, Nat.le_of_ble_eq_true rfl⟩ rfl hl.1 rfl (Nat.le_of_ble_eq_true rfl) d_Md_nearest_268) hS (fun r55 I53 J54 h H locs hP hS => ?_)
        refine lv_aload_n hx hb d_Md_nearest_271 rfl (lv_at hl 0 rfl) ?_
        refine gfM_Md_17 C hP d_Md_nearest_272 ?_
        refine lv_bipush (v := (16 : Int32)) hx hb d_Md_nearest_275 (by decide) ?_
        refine lv_iload hx hb d_Md_nearest_277 (lv_at hl 2 rfl) ?_
        refine lv_imul hx hb d_Md_nearest_279 ?_
        refine lv_bipush (v := (16 : Int32)) hx hb d_Md_nearest_280 (by decide) ?_
        refine lv_iadd hx hb d_Md_nearest_282 ?_
        refine lv_iload hx hb d_Md_nearest_283 (lv_at hl 1 rfl) ?_
        refine lv_iconst (v := (1 : Int32)) hx hb d_Md_nearest_285 (by decide) ?_
        refine lv_ishl hx hb d_Md_nearest_286 ?_
        refine lv_bipush (v := (15 : Int32)) hx hb d_Md_nearest_287 (by decide) ?_
        refine lv_iand hx hb d_Md_nearest_289 ?_
        refine lv_iadd hx hb d_Md_nearest_290 ?_
        obtain ⟨j56, ej56, h_j56, h⟩ := h
        refine x_iald hx hb hK hP (2) 0 (Nat.le_of_ble_eq_true rfl) eM_cost rfl ej56 h_j56 (by decide) d_Md_nearest_291 ?_
        refine lv_iadd hx hb d_Md_nearest_292 ?_
        refine lv_topi (fun x57 ex57 => ?_)
        have h := h x57 ex57
        refine lv_istore hx hb d_Md_nearest_293 hl (Nat.le_of_ble_eq_true rfl) (lv' := [(9, .int x57), (0, .ref (Θ (0))), (7, .int v7), (8, .int v8)]) rfl (fun ls hl => ?_)
        refine lv_iload hx hb d_Md_nearest_295 (lv_at hl 0 rfl) ?_
        refine lv_aload_n hx hb d_Md_nearest_297 rfl (lv_at hl 1 rfl) ?_
        refine gfM_Md_17 C hP d_Md_nearest_298 ?_
        refine lv_bipush (v := (16 : Int32)) hx hb d_Md_nearest_301 (by decide) ?_
        refine lv_iload hx hb d_Md_nearest_303 (lv_at hl 3 rfl) ?_
        refine lv_imul hx hb d_Md_nearest_305 ?_
        refine lv_iload hx hb d_Md_nearest_306 (lv_at hl 2 rfl) ?_
        refine lv_iadd hx hb d_Md_nearest_308 ?_
        obtain ⟨j58, ej58, h_j58, h⟩ := h
        refine x_iald hx hb hK hP (2) 0 (Nat.le_of_ble_eq_true rfl) eM_cost rfl ej58 h_j58 (by decide) d_Md_nearest_309 ?_
        refine lv_icmp_ne hx hb d_Md_nearest_310 (tgt := 317) rfl (fun hc62 => ?_) (fun hc62 => ?_)
        · have h := h.1 hc62
          refine lv_iconst (v := (1 : Int32)) hx hb d_Md_nearest_317 (by decide) ?_
          exact tJ318 _ ih _ _ _ _ _ h _ _ _ (lv_sub hl [1, 2, 3] rfl) hP hS
        · have h := h.2 hc62
          refine lv_iconst (v := (0 : Int32)) hx hb d_Md_nearest_313 (by decide) ?_
          refine lv_goto hx hb d_Md_nearest_314 (tgt := 318) rfl ?_
          exact tJ318 _ ih _ _ _ _ _ h _ _ _ (lv_sub hl [1, 2, 3] rfl) hP hS
  have hE := lg_entry_eq m [.ref (Θ (0)), .long p1, .int p3] 11
  rw [← hargs] at hE
  rw [hE]
  have hl := lv_entry [.ref (Θ (0)), .long p1, .int p3] (n := 11) (Nat.le_of_ble_eq_true rfl)
  generalize (lg_sl [.ref (Θ (0)), .long p1, .int p3] ++ List.replicate (11 - (lg_sl [.ref (Θ (0)), .long p1, .int p3]).length) Slot.unset).toArray = ls at hl ⊢
  have hl : lv_has ls 11 [(0, .ref (Θ (0))), (1, .long p1), (3, .int p3)] := hl
  unfold p_Md_nearest at h
  refine lv_lload_n hx hb d_Md_nearest_0 rfl (lv_at hl 1 rfl) ?_
  refine lv_iload_n hx hb d_Md_nearest_1 rfl (lv_at hl 2 rfl) ?_
  refine x_gl (x_S C hP hS (c_Md_turns l D κ hΘ sz p3 I J _ h) q_Md_turns k_979 k_978 rfl rfl ⟨Nat.le_of_ble_eq_true rfl, Nat.le_of_ble_eq_true rfl⟩ rfl hl.1 rfl (Nat.le_of_ble_eq_true rfl) d_Md_nearest_2) hS (fun r3 I1 J2 h H locs hP hS => ?_)
  refine lv_lxor hx hb d_Md_nearest_5 ?_
  refine lv_topl (fun x4 ex4 => ?_)
  have h := h x4 ex4
  refine lv_lstore hx hb d_Md_nearest_6 hl (Nat.le_of_ble_eq_true rfl) (lv' := [(4, .long x4), (0, .ref (Θ (0))), (1, .long p1), (3, .int p3)]) rfl (fun ls hl => ?_)
  refine lv_iconst (v := (0 : Int32)) hx hb d_Md_nearest_8 (by decide) ?_
  refine lv_topi (fun x5 ex5 => ?_)
  have h := h x5 ex5
  refine lv_istore hx hb d_Md_nearest_9 hl (Nat.le_of_ble_eq_true rfl) (lv' := [(6, .int x5), (4, .long x4), (0, .ref (Θ (0))), (1, .long p1), (3, .int p3)]) rfl (fun ls hl => ?_)
  refine lv_iconst (v := (0 : Int32)) hx hb d_Md_nearest_11 (by decide) ?_
  refine lv_topi (fun x6 ex6 => ?_)
  have h := h x6 ex6
  refine lv_istore hx hb d_Md_nearest_12 hl (Nat.le_of_ble_eq_true rfl) (lv' := [(7, .int x6), (6, .int x5), (4, .long x4), (0, .ref (Θ (0))), (1, .long p1), (3, .int p3)]) rfl (fun ls hl => ?_)
  obtain ⟨n67, h⟩ := h
  refine tL14 _ ?_ n67 _ _ _ _ _ h _ _ _ (lv_sub hl [3, 2, 1, 0] rfl) hP hS
  · intro I15 J16 h H locs ls hl hP hS
    refine lv_iconst (v := (0 : Int32)) hx hb d_Md_nearest_67 (by decide) ?_
    refine lv_topi (fun x17 ex17 => ?_)
    have h := h x17 ex17
    refine lv_istore hx hb d_Md_nearest_68 hl (Nat.le_of_ble_eq_true rfl) (lv' := [(7, .int x17), (0, .ref (Θ (0)))]) rfl (fun ls hl => ?_)
    obtain ⟨n66, h⟩ := h
    refine tL70 _ ?_ n66 _ _ _ h _ _ _ (lv_sub hl [1, 0] rfl) hP hS
    · intro I22 J23 h H locs ls hl hP hS
      refine lv_bipush (v := (35 : Int32)) hx hb d_Md_nearest_95 (by decide) ?_
      refine lv_topi (fun x24 ex24 => ?_)
      have h := h x24 ex24
      refine lv_istore hx hb d_Md_nearest_97 hl (Nat.le_of_ble_eq_true rfl) (lv' := [(7, .int x24), (0, .ref (Θ (0)))]) rfl (fun ls hl => ?_)
      obtain ⟨n65, h⟩ := h
      refine tL99 _ ?_ n65 _ _ _ h _ _ _ (lv_sub hl [1, 0] rfl) hP hS
      · intro I47 J48 h H locs ls hl hP hS
        refine lv_aload_n hx hb d_Md_nearest_234 rfl (lv_at hl 0 rfl) ?_
        refine lv_aload_n hx hb d_Md_nearest_235 rfl (lv_at hl 0 rfl) ?_
        refine gfM_Md_17 C hP d_Md_nearest_236 ?_
        refine lv_iconst (v := (0 : Int32)) hx hb d_Md_nearest_239 (by decide) ?_
        refine x_iald hx hb hK hP (2) 0 (Nat.le_of_ble_eq_true rfl) eM_cost rfl (j := 0) (by decide) (Nat.le_of_ble_eq_true rfl) (by decide) d_Md_nearest_240 ?_
        refine pfM_Md_24 C hΘ hP hS d_Md_nearest_241 (fun H locs hP hS => ?_)
        obtain ⟨I49, eI49⟩ : ∃ y, y = xu I47 (0) 4 (I47 (2) 0) := ⟨_, rfl⟩
        have hP : va_P D clA (xw 34 Θ (eM Θ κ) I49 J48) H := by rw [eI49]; exact hP
        have h := h I49 eI49
        refine lv_aload_n hx hb d_Md_nearest_244 rfl (lv_at hl 0 rfl) ?_
        refine lv_lconst (v := (0 : Int64)) hx hb d_Md_nearest_245 (by decide) ?_
        refine pfM_Md_20 C hΘ hP hS d_Md_nearest_246 (fun H locs hP hS => ?_)
        obtain ⟨J50, eJ50⟩ : ∃ y, y = xv J48 (0) 3 (0 : Int64) := ⟨_, rfl⟩
        have hP : va_P D clA (xw 34 Θ (eM Θ κ) I49 J50) H := by rw [eJ50]; exact hP
        have h := h J50 eJ50
        refine lv_iconst (v := (0 : Int32)) hx hb d_Md_nearest_249 (by decide) ?_
        refine lv_topi (fun x51 ex51 => ?_)
        have h := h x51 ex51
        refine lv_istore hx hb d_Md_nearest_250 hl (Nat.le_of_ble_eq_true rfl) (lv' := [(7, .int x51), (0, .ref (Θ (0)))]) rfl (fun ls hl => ?_)
        refine lv_iconst (v := (0 : Int32)) hx hb d_Md_nearest_252 (by decide) ?_
        refine lv_topi (fun x52 ex52 => ?_)
        have h := h x52 ex52
        refine lv_istore hx hb d_Md_nearest_253 hl (Nat.le_of_ble_eq_true rfl) (lv' := [(8, .int x52), (7, .int x51), (0, .ref (Θ (0)))]) rfl (fun ls hl => ?_)
        obtain ⟨n64, h⟩ := h
        refine tL255 n64 _ _ _ _ h _ _ _ (lv_sub hl [2, 1, 0] rfl) hP hS
set_option maxHeartbeats 4000000 in
set_option maxRecDepth 100000 in
theorem c_Md_blockOf (l : Launch) (D : va_G) (κ : Nat → ClassId) {Θ : Nat → Nat} (hΘ : xJ 34 Θ) (sz : Nat) (p1 : Int64) (p3 : Int32) (I : SI) (J : SJ) (post : Int32 → SI → SJ → Prop) (h : p_Md_blockOf p1 p3 post I J) : Met l y_Md_blockOf WS rm_Md_blockOf (va_Pc [.ref (Θ (0)), .long p1, .int p3] (xPR D clA (tysA κ) 34 Θ (eM Θ κ) sz I J)) (xQi D clA 34 Θ (eM Θ κ) sz post) 0 0 (xA 34 Θ sz) := by
  refine xMet (cc := b_Md_blockOf) (maxL := 5) (ret := (some .int)) (by decide) q_Md_blockOf.1 ?_
  intro p e s m args below meth c s₁ B hml hv
  obtain ⟨hargs, hsz, hP, hK, hN, hG⟩ := hv
  have hx := B.exec
  have hb := B.bytes
  have hr := B.returns
  have hlocks := B.notSynchronized
  have hts := atoms_spec (ws := WS) B.pre
  have hown : s.vm.findClass R_Md = some m.cls := findClass_of_methodNamed B.named
  have C : xC p m c b_Md_blockOf 5 s args R_Md D clA (tysA κ) 34 Θ sz := ⟨⟨hx, hb, hml, hown, hts⟩, hK, hN, hG, hsz⟩
  have hS : va_S (xA 34 Θ sz) s.heap s.heap [] := va_S.rf
  have hE := lg_entry_eq m [.ref (Θ (0)), .long p1, .int p3] 5
  rw [← hargs] at hE
  rw [hE]
  have hl := lv_entry [.ref (Θ (0)), .long p1, .int p3] (n := 5) (Nat.le_of_ble_eq_true rfl)
  generalize (lg_sl [.ref (Θ (0)), .long p1, .int p3] ++ List.replicate (5 - (lg_sl [.ref (Θ (0)), .long p1, .int p3]).length) Slot.unset).toArray = ls at hl ⊢
  have hl : lv_has ls 5 [(0, .ref (Θ (0))), (1, .long p1), (3, .int p3)] := hl
  unfold p_Md_blockOf at h
  refine lv_aload_n hx hb d_Md_blockOf_0 rfl (lv_at hl 0 rfl) ?_
  refine lv_lload_n hx hb d_Md_blockOf_1 rfl (lv_at hl 1 rfl) ?_
  refine lv_iload_n hx hb d_Md_blockOf_2 rfl (lv_at hl 2 rfl) ?_
  refine x_gv (x_V C hP hS (Nat.le_of_ble_eq_true rfl) (eM_Md _ _) rfl (c_Md_nearest l D κ hΘ sz p1 p3 I J _ h) q_Md_nearest k_990 sel_Md_nearest k_988 rfl rfl ⟨Nat.le_of_ble_eq_true rfl, Nat.le_of_ble_eq_true rfl⟩ rfl hl.1 rfl (Nat.le_of_ble_eq_true rfl) d_Md_blockOf_3) hS (fun I1 J2 h H locs hP hS => ?_)
  refine lv_aload_n hx hb d_Md_blockOf_6 rfl (lv_at hl 0 rfl) ?_
  refine gfM_Md_20 C hP d_Md_blockOf_7 ?_
  refine lv_bipush (v := (16 : Int32)) hx hb d_Md_blockOf_10 (by decide) ?_
  refine lv_lshr (v := xlr (J2 0 3) (16 : Int32)) hx hb d_Md_blockOf_12 rfl ?_
  refine lv_l2i (v := Int64.toInt32 (xlr (J2 0 3) (16 : Int32))) hx hb d_Md_blockOf_13 rfl ?_
  refine lv_topi (fun x3 ex3 => ?_)
  have h := h x3 ex3
  refine lv_istore hx hb d_Md_blockOf_14 hl (Nat.le_of_ble_eq_true rfl) (lv' := [(4, .int x3), (0, .ref (Θ (0))), (1, .long p1), (3, .int p3)]) rfl (fun ls hl => ?_)
  refine lv_aload_n hx hb d_Md_blockOf_16 rfl (lv_at hl 1 rfl) ?_
  refine gfM_Md_20 C hP d_Md_blockOf_17 ?_
  refine lv_iconst (v := (4 : Int32)) hx hb d_Md_blockOf_20 (by decide) ?_
  refine lv_lshr (v := xlr (J2 0 3) (4 : Int32)) hx hb d_Md_blockOf_21 rfl ?_
  refine lv_l2i (v := Int64.toInt32 (xlr (J2 0 3) (4 : Int32))) hx hb d_Md_blockOf_22 rfl ?_
  refine lv_sipush (v := (4095 : Int32)) hx hb d_Md_blockOf_23 (by decide) ?_
  refine lv_iand hx hb d_Md_blockOf_26 ?_
  refine lv_iload hx hb d_Md_blockOf_27 (lv_at hl 0 rfl) ?_
  refine x_gi (x_S C hP hS (c_Md_check l D κ hΘ sz x3 I1 J2 _ h) q_Md_check k_976 k_975 rfl rfl ⟨Nat.le_of_ble_eq_true rfl, Nat.le_of_ble_eq_true rfl⟩ rfl hl.1 rfl (Nat.le_of_ble_eq_true rfl) d_Md_blockOf_29) hS (fun r6 I4 J5 h H locs hP hS => ?_)
  refine lv_icmp_ne hx hb d_Md_blockOf_32 (tgt := 40) rfl (fun hc7 => ?_) (fun hc7 => ?_)
  · have h := h.1 hc7
    refine lv_iconst (v := (-1 : Int32)) hx hb d_Md_blockOf_40 (by decide) ?_
    exact x_iret hx hb hr hlocks hP hS h d_Md_blockOf_41
  · have h := h.2 hc7
    refine lv_iload hx hb d_Md_blockOf_35 (lv_at hl 0 rfl) ?_
    refine lv_goto hx hb d_Md_blockOf_37 (tgt := 41) rfl ?_
    exact x_iret hx hb hr hlocks hP hS h d_Md_blockOf_41
set_option maxHeartbeats 4000000 in
set_option maxRecDepth 100000 in
theorem c_Md_gets (l : Launch) (D : va_G) (κ : Nat → ClassId) {Θ : Nat → Nat} (hΘ : xJ 34 Θ) (sz : Nat) (p1 : Int32) (p2 : Int32) (p3 : Int32) (I : SI) (J : SJ) (post : Int32 → SI → SJ → Prop) (h : p_Md_gets p1 p2 p3 post I J) : Met l y_Md_gets WS rm_Md_gets (va_Pc [.ref (Θ (0)), .int p1, .int p2, .int p3] (xPR D clA (tysA κ) 34 Θ (eM Θ κ) sz I J)) (xQi D clA 34 Θ (eM Θ κ) sz post) 0 0 (xA 34 Θ sz) := by
  refine xMet (cc := b_Md_gets) (maxL := 6) (ret := (some .int)) (by decide) q_Md_gets.1 ?_
  intro p e s m args below meth c s₁ B hml hv
  obtain ⟨hargs, hsz, hP, hK, hN, hG⟩ := hv
  have hx := B.exec
  have hb := B.bytes
  have hr := B.returns
  have hlocks := B.notSynchronized
  have hts := atoms_spec (ws := WS) B.pre
  have hown : s.vm.findClass R_Md = some m.cls := findClass_of_methodNamed B.named
  have C : xC p m c b_Md_gets 6 s args R_Md D clA (tysA κ) 34 Θ sz := ⟨⟨hx, hb, hml, hown, hts⟩, hK, hN, hG, hsz⟩
  have hS : va_S (xA 34 Θ sz) s.heap s.heap [] := va_S.rf
  have hE := lg_entry_eq m [.ref (Θ (0)), .int p1, .int p2, .int p3] 6
  rw [← hargs] at hE
  rw [hE]
  have hl := lv_entry [.ref (Θ (0)), .int p1, .int p2, .int p3] (n := 6) (Nat.le_of_ble_eq_true rfl)
  generalize (lg_sl [.ref (Θ (0)), .int p1, .int p2, .int p3] ++ List.replicate (6 - (lg_sl [.ref (Θ (0)), .int p1, .int p2, .int p3]).length) Slot.unset).toArray = ls at hl ⊢
  have hl : lv_has ls 6 [(0, .ref (Θ (0))), (1, .int p1), (2, .int p2), (3, .int p3)] := hl
  unfold p_Md_gets at h
  refine lv_iload_n hx hb d_Md_gets_0 rfl (lv_at hl 2 rfl) ?_
  refine lv_iload_n hx hb d_Md_gets_1 rfl (lv_at hl 3 rfl) ?_
  refine lv_iconst (v := (1 : Int32)) hx hb d_Md_gets_2 (by decide) ?_
  refine lv_iadd hx hb d_Md_gets_3 ?_
  refine x_gl (x_S C hP hS (c_Md_burstOf l D κ hΘ sz p2 (p3 + (1 : Int32)) I J _ h) q_Md_burstOf k_973 k_972 rfl rfl ⟨Nat.le_of_ble_eq_true rfl, Nat.le_of_ble_eq_true rfl⟩ rfl hl.1 rfl (Nat.le_of_ble_eq_true rfl) d_Md_gets_4) hS (fun r3 I1 J2 h H locs hP hS => ?_)
  refine lv_aload_n hx hb d_Md_gets_7 rfl (lv_at hl 0 rfl) ?_
  refine gfM_Md_94 C hP d_Md_gets_8 ?_
  refine lv_iload_n hx hb d_Md_gets_11 rfl (lv_at hl 1 rfl) ?_
  obtain ⟨j4, ej4, h_j4, h⟩ := h
  refine x_lald hx hb hK hP (25) 1 (Nat.le_of_ble_eq_true rfl) eM_faults rfl ej4 h_j4 (by decide) d_Md_gets_12 ?_
  refine lv_lxor hx hb d_Md_gets_13 ?_
  refine lv_topl (fun x5 ex5 => ?_)
  have h := h x5 ex5
  refine lv_lstore hx hb d_Md_gets_14 hl (Nat.le_of_ble_eq_true rfl) (lv' := [(4, .long x5), (0, .ref (Θ (0))), (1, .int p1), (2, .int p2), (3, .int p3)]) rfl (fun ls hl => ?_)
  refine lv_aload_n hx hb d_Md_gets_16 rfl (lv_at hl 1 rfl) ?_
  refine gfM_Md_94 C hP d_Md_gets_17 ?_
  refine lv_iload_n hx hb d_Md_gets_20 rfl (lv_at hl 2 rfl) ?_
  refine lv_lconst (v := (0 : Int64)) hx hb d_Md_gets_21 (by decide) ?_
  obtain ⟨j6, ej6, h_j6, h⟩ := h
  refine x_last hx hb hK hΘ hP hS (25) 1 (Nat.le_of_ble_eq_true rfl) eM_faults rfl ej6 h_j6 (by decide) d_Md_gets_22 (fun H locs hP hS => ?_)
  obtain ⟨J7, eJ7⟩ : ∃ y, y = xv J2 (25) j6 (0 : Int64) := ⟨_, rfl⟩
  have hP : va_P D clA (xw 34 Θ (eM Θ κ) I1 J7) H := by rw [eJ7]; exact hP
  have h := h J7 eJ7
  refine lv_aload_n hx hb d_Md_gets_23 rfl (lv_at hl 1 rfl) ?_
  refine lv_lload hx hb d_Md_gets_24 (lv_at hl 0 rfl) ?_
  refine lv_iload_n hx hb d_Md_gets_26 rfl (lv_at hl 4 rfl) ?_
  refine lv_iconst (v := (1 : Int32)) hx hb d_Md_gets_27 (by decide) ?_
  refine lv_iadd hx hb d_Md_gets_28 ?_
  refine x_gi (x_V C hP hS (Nat.le_of_ble_eq_true rfl) (eM_Md _ _) rfl (c_Md_blockOf l D κ hΘ sz x5 (p3 + (1 : Int32)) I1 J7 _ h) q_Md_blockOf k_986 sel_Md_blockOf k_984 rfl rfl ⟨Nat.le_of_ble_eq_true rfl, Nat.le_of_ble_eq_true rfl⟩ rfl hl.1 rfl (Nat.le_of_ble_eq_true rfl) d_Md_gets_29) hS (fun r10 I8 J9 h H locs hP hS => ?_)
  exact x_iret hx hb hr hlocks hP hS h d_Md_gets_32
set_option maxHeartbeats 4000000 in
set_option maxRecDepth 100000 in
theorem c_Md_control (l : Launch) (D : va_G) (κ : Nat → ClassId) {Θ : Nat → Nat} (hΘ : xJ 34 Θ) (sz : Nat) (p0 : Int32) (p1 : Int32) (p2 : Int32) (p3 : Int32) (p4 : Int32) (I : SI) (J : SJ) (post : Int32 → SI → SJ → Prop) (h : p_Md_control p0 p1 p2 p3 p4 post I J) : Met l y_Md_control WS rm_Md_control (va_Pc [.int p0, .int p1, .int p2, .int p3, .int p4] (xPR D clA (tysA κ) 34 Θ (eM Θ κ) sz I J)) (xQi D clA 34 Θ (eM Θ κ) sz post) 0 0 (xA 34 Θ sz) := by
  refine xMet (cc := b_Md_control) (maxL := 5) (ret := (some .int)) (by decide) q_Md_control.1 ?_
  intro p e s m args below meth c s₁ B hml hv
  obtain ⟨hargs, hsz, hP, hK, hN, hG⟩ := hv
  have hx := B.exec
  have hb := B.bytes
  have hr := B.returns
  have hlocks := B.notSynchronized
  have hts := atoms_spec (ws := WS) B.pre
  have hown : s.vm.findClass R_Md = some m.cls := findClass_of_methodNamed B.named
  have C : xC p m c b_Md_control 5 s args R_Md D clA (tysA κ) 34 Θ sz := ⟨⟨hx, hb, hml, hown, hts⟩, hK, hN, hG, hsz⟩
  have hS : va_S (xA 34 Θ sz) s.heap s.heap [] := va_S.rf
  have hE := lg_entry_eq m [.int p0, .int p1, .int p2, .int p3, .int p4] 5
  rw [← hargs] at hE
  rw [hE]
  have hl := lv_entry [.int p0, .int p1, .int p2, .int p3, .int p4] (n := 5) (Nat.le_of_ble_eq_true rfl)
  generalize (lg_sl [.int p0, .int p1, .int p2, .int p3, .int p4] ++ List.replicate (5 - (lg_sl [.int p0, .int p1, .int p2, .int p3, .int p4]).length) Slot.unset).toArray = ls at hl ⊢
  have hl : lv_has ls 5 [(0, .int p0), (1, .int p1), (2, .int p2), (3, .int p3), (4, .int p4)] := hl
  unfold p_Md_control at h
  refine lv_iload_n hx hb d_Md_control_0 rfl (lv_at hl 0 rfl) ?_
  refine lv_bipush (v := (16 : Int32)) hx hb d_Md_control_1 (by decide) ?_
  refine lv_ishl hx hb d_Md_control_3 ?_
  refine lv_iload_n hx hb d_Md_control_4 rfl (lv_at hl 1 rfl) ?_
  refine lv_bipush (v := (13 : Int32)) hx hb d_Md_control_5 (by decide) ?_
  refine lv_ishl hx hb d_Md_control_7 ?_
  refine lv_ior hx hb d_Md_control_8 ?_
  refine lv_iload_n hx hb d_Md_control_9 rfl (lv_at hl 2 rfl) ?_
  refine lv_bipush (v := (11 : Int32)) hx hb d_Md_control_10 (by decide) ?_
  refine lv_ishl hx hb d_Md_control_12 ?_
  refine lv_ior hx hb d_Md_control_13 ?_
  refine lv_iload_n hx hb d_Md_control_14 rfl (lv_at hl 3 rfl) ?_
  refine lv_bipush (v := (9 : Int32)) hx hb d_Md_control_15 (by decide) ?_
  refine lv_ishl hx hb d_Md_control_17 ?_
  refine lv_ior hx hb d_Md_control_18 ?_
  refine lv_iload hx hb d_Md_control_19 (lv_at hl 4 rfl) ?_
  refine lv_ior hx hb d_Md_control_21 ?_
  exact x_iret hx hb hr hlocks hP hS h d_Md_control_22
