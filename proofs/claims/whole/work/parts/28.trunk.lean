theorem d_TC_receive_0 : decode b_TC_receive 0 = .ok (.aload_n 0, 1) := by decide +kernel
theorem d_TC_receive_1 : decode b_TC_receive 1 = .ok (.getfield 32, 3) := by decide +kernel
theorem d_TC_receive_4 : decode b_TC_receive 4 = .ok (.iload_n 1, 1) := by decide +kernel
theorem d_TC_receive_5 : decode b_TC_receive 5 = .ok (.laload, 1) := by decide +kernel
theorem d_TC_receive_6 : decode b_TC_receive 6 = .ok (.lstore 4, 2) := by decide +kernel
theorem d_TC_receive_8 : decode b_TC_receive 8 = .ok (.aload_n 0, 1) := by decide +kernel
theorem d_TC_receive_9 : decode b_TC_receive 9 = .ok (.getfield 32, 3) := by decide +kernel
theorem d_TC_receive_12 : decode b_TC_receive 12 = .ok (.iload_n 1, 1) := by decide +kernel
theorem d_TC_receive_13 : decode b_TC_receive 13 = .ok (.lconst 0, 1) := by decide +kernel
theorem d_TC_receive_14 : decode b_TC_receive 14 = .ok (.lastore, 1) := by decide +kernel
theorem d_TC_receive_15 : decode b_TC_receive 15 = .ok (.lload 4, 2) := by decide +kernel
theorem d_TC_receive_17 : decode b_TC_receive 17 = .ok (.lconst 0, 1) := by decide +kernel
theorem d_TC_receive_18 : decode b_TC_receive 18 = .ok (.lcmp, 1) := by decide +kernel
theorem d_TC_receive_19 : decode b_TC_receive 19 = .ok (.ifCond .ne (5), 3) := by decide +kernel
theorem d_TC_receive_22 : decode b_TC_receive 22 = .ok (.iload_n 2, 1) := by decide +kernel
theorem d_TC_receive_23 : decode b_TC_receive 23 = .ok (.ireturn, 1) := by decide +kernel
theorem d_TC_receive_24 : decode b_TC_receive 24 = .ok (.aload_n 0, 1) := by decide +kernel
theorem d_TC_receive_25 : decode b_TC_receive 25 = .ok (.getfield 10, 3) := by decide +kernel
theorem d_TC_receive_28 : decode b_TC_receive 28 = .ok (.aload_n 0, 1) := by decide +kernel
theorem d_TC_receive_29 : decode b_TC_receive 29 = .ok (.getfield 10, 3) := by decide +kernel
theorem d_TC_receive_32 : decode b_TC_receive 32 = .ok (.iload_n 2, 1) := by decide +kernel
theorem d_TC_receive_33 : decode b_TC_receive 33 = .ok (.iload_n 3, 1) := by decide +kernel
theorem d_TC_receive_34 : decode b_TC_receive 34 = .ok (.invokevirtual 160, 3) := by decide +kernel
theorem d_TC_receive_37 : decode b_TC_receive 37 = .ok (.lload 4, 2) := by decide +kernel
theorem d_TC_receive_39 : decode b_TC_receive 39 = .ok (.lxor, 1) := by decide +kernel
theorem d_TC_receive_40 : decode b_TC_receive 40 = .ok (.iload_n 3, 1) := by decide +kernel
theorem d_TC_receive_41 : decode b_TC_receive 41 = .ok (.invokevirtual 164, 3) := by decide +kernel
theorem d_TC_receive_44 : decode b_TC_receive 44 = .ok (.ireturn, 1) := by decide +kernel
theorem d_TC_sendMessages_0 : decode b_TC_sendMessages 0 = .ok (.iconst (0), 1) := by decide +kernel
theorem d_TC_sendMessages_1 : decode b_TC_sendMessages 1 = .ok (.istore_n 3, 1) := by decide +kernel
theorem d_TC_sendMessages_2 : decode b_TC_sendMessages 2 = .ok (.iconst (-1), 1) := by decide +kernel
theorem d_TC_sendMessages_3 : decode b_TC_sendMessages 3 = .ok (.istore 4, 2) := by decide +kernel
theorem d_TC_sendMessages_5 : decode b_TC_sendMessages 5 = .ok (.iconst (0), 1) := by decide +kernel
theorem d_TC_sendMessages_6 : decode b_TC_sendMessages 6 = .ok (.istore 5, 2) := by decide +kernel
theorem d_TC_sendMessages_8 : decode b_TC_sendMessages 8 = .ok (.iload 5, 2) := by decide +kernel
theorem d_TC_sendMessages_10 : decode b_TC_sendMessages 10 = .ok (.bipush (8), 2) := by decide +kernel
theorem d_TC_sendMessages_12 : decode b_TC_sendMessages 12 = .ok (.if_icmp .ge (60), 3) := by decide +kernel
theorem d_TC_sendMessages_15 : decode b_TC_sendMessages 15 = .ok (.aload_n 0, 1) := by decide +kernel
theorem d_TC_sendMessages_16 : decode b_TC_sendMessages 16 = .ok (.getfield 25, 3) := by decide +kernel
theorem d_TC_sendMessages_19 : decode b_TC_sendMessages 19 = .ok (.iload 5, 2) := by decide +kernel
theorem d_TC_sendMessages_21 : decode b_TC_sendMessages 21 = .ok (.aaload, 1) := by decide +kernel
theorem d_TC_sendMessages_22 : decode b_TC_sendMessages 22 = .ok (.astore 6, 2) := by decide +kernel
theorem d_TC_sendMessages_24 : decode b_TC_sendMessages 24 = .ok (.aload 6, 2) := by decide +kernel
theorem d_TC_sendMessages_26 : decode b_TC_sendMessages 26 = .ok (.getfield 61, 3) := by decide +kernel
theorem d_TC_sendMessages_29 : decode b_TC_sendMessages 29 = .ok (.iload_n 1, 1) := by decide +kernel
theorem d_TC_sendMessages_30 : decode b_TC_sendMessages 30 = .ok (.if_icmp .ne (36), 3) := by decide +kernel
theorem d_TC_sendMessages_33 : decode b_TC_sendMessages 33 = .ok (.aload 6, 2) := by decide +kernel
theorem d_TC_sendMessages_35 : decode b_TC_sendMessages 35 = .ok (.getfield 64, 3) := by decide +kernel
theorem d_TC_sendMessages_38 : decode b_TC_sendMessages 38 = .ok (.invokevirtual 181, 3) := by decide +kernel
theorem d_TC_sendMessages_41 : decode b_TC_sendMessages 41 = .ok (.ifCond .eq (25), 3) := by decide +kernel
theorem d_TC_sendMessages_44 : decode b_TC_sendMessages 44 = .ok (.aload 6, 2) := by decide +kernel
theorem d_TC_sendMessages_46 : decode b_TC_sendMessages 46 = .ok (.getfield 64, 3) := by decide +kernel
theorem d_TC_sendMessages_49 : decode b_TC_sendMessages 49 = .ok (.invokevirtual 222, 3) := by decide +kernel
theorem d_TC_sendMessages_52 : decode b_TC_sendMessages 52 = .ok (.ifCond .eq (14), 3) := by decide +kernel
theorem d_TC_sendMessages_55 : decode b_TC_sendMessages 55 = .ok (.iinc 3 (1), 3) := by decide +kernel
theorem d_TC_sendMessages_58 : decode b_TC_sendMessages 58 = .ok (.aload 6, 2) := by decide +kernel
theorem d_TC_sendMessages_60 : decode b_TC_sendMessages 60 = .ok (.iload_n 2, 1) := by decide +kernel
theorem d_TC_sendMessages_61 : decode b_TC_sendMessages 61 = .ok (.invokevirtual 225, 3) := by decide +kernel
theorem d_TC_sendMessages_64 : decode b_TC_sendMessages 64 = .ok (.istore 4, 2) := by decide +kernel
theorem d_TC_sendMessages_66 : decode b_TC_sendMessages 66 = .ok (.iinc 5 (1), 3) := by decide +kernel
theorem d_TC_sendMessages_69 : decode b_TC_sendMessages 69 = .ok (.goto (-61), 3) := by decide +kernel
theorem d_TC_sendMessages_72 : decode b_TC_sendMessages 72 = .ok (.iload_n 3, 1) := by decide +kernel
theorem d_TC_sendMessages_73 : decode b_TC_sendMessages 73 = .ok (.iconst (1), 1) := by decide +kernel
theorem d_TC_sendMessages_74 : decode b_TC_sendMessages 74 = .ok (.if_icmp .ne (8), 3) := by decide +kernel
theorem d_TC_sendMessages_77 : decode b_TC_sendMessages 77 = .ok (.iload 4, 2) := by decide +kernel
theorem d_TC_sendMessages_79 : decode b_TC_sendMessages 79 = .ok (.goto (4), 3) := by decide +kernel
theorem d_TC_sendMessages_82 : decode b_TC_sendMessages 82 = .ok (.iconst (-1), 1) := by decide +kernel
theorem d_TC_sendMessages_83 : decode b_TC_sendMessages 83 = .ok (.ireturn, 1) := by decide +kernel
theorem d_TC_tellMobiles_0 : decode b_TC_tellMobiles 0 = .ok (.iconst (0), 1) := by decide +kernel
theorem d_TC_tellMobiles_1 : decode b_TC_tellMobiles 1 = .ok (.istore_n 3, 1) := by decide +kernel
theorem d_TC_tellMobiles_2 : decode b_TC_tellMobiles 2 = .ok (.iload_n 3, 1) := by decide +kernel
theorem d_TC_tellMobiles_3 : decode b_TC_tellMobiles 3 = .ok (.bipush (8), 2) := by decide +kernel
theorem d_TC_tellMobiles_5 : decode b_TC_tellMobiles 5 = .ok (.if_icmp .ge (66), 3) := by decide +kernel
theorem d_TC_tellMobiles_8 : decode b_TC_tellMobiles 8 = .ok (.aload_n 0, 1) := by decide +kernel
theorem d_TC_tellMobiles_9 : decode b_TC_tellMobiles 9 = .ok (.getfield 25, 3) := by decide +kernel
theorem d_TC_tellMobiles_12 : decode b_TC_tellMobiles 12 = .ok (.iload_n 3, 1) := by decide +kernel
theorem d_TC_tellMobiles_13 : decode b_TC_tellMobiles 13 = .ok (.aaload, 1) := by decide +kernel
theorem d_TC_tellMobiles_14 : decode b_TC_tellMobiles 14 = .ok (.getfield 61, 3) := by decide +kernel
theorem d_TC_tellMobiles_17 : decode b_TC_tellMobiles 17 = .ok (.iload_n 1, 1) := by decide +kernel
theorem d_TC_tellMobiles_18 : decode b_TC_tellMobiles 18 = .ok (.if_icmp .ne (47), 3) := by decide +kernel
theorem d_TC_tellMobiles_21 : decode b_TC_tellMobiles 21 = .ok (.aload_n 0, 1) := by decide +kernel
theorem d_TC_tellMobiles_22 : decode b_TC_tellMobiles 22 = .ok (.iconst (3), 1) := by decide +kernel
theorem d_TC_tellMobiles_23 : decode b_TC_tellMobiles 23 = .ok (.iload_n 3, 1) := by decide +kernel
theorem d_TC_tellMobiles_24 : decode b_TC_tellMobiles 24 = .ok (.iadd, 1) := by decide +kernel
theorem d_TC_tellMobiles_25 : decode b_TC_tellMobiles 25 = .ok (.iload_n 2, 1) := by decide +kernel
theorem d_TC_tellMobiles_26 : decode b_TC_tellMobiles 26 = .ok (.iload_n 1, 1) := by decide +kernel
theorem d_TC_tellMobiles_27 : decode b_TC_tellMobiles 27 = .ok (.invokestatic 193, 3) := by decide +kernel
theorem d_TC_tellMobiles_30 : decode b_TC_tellMobiles 30 = .ok (.invokevirtual 196, 3) := by decide +kernel
theorem d_TC_tellMobiles_33 : decode b_TC_tellMobiles 33 = .ok (.istore 4, 2) := by decide +kernel
theorem d_TC_tellMobiles_35 : decode b_TC_tellMobiles 35 = .ok (.iload 4, 2) := by decide +kernel
theorem d_TC_tellMobiles_37 : decode b_TC_tellMobiles 37 = .ok (.iconst (-1), 1) := by decide +kernel
theorem d_TC_tellMobiles_38 : decode b_TC_tellMobiles 38 = .ok (.if_icmp .eq (27), 3) := by decide +kernel
theorem d_TC_tellMobiles_41 : decode b_TC_tellMobiles 41 = .ok (.aload_n 0, 1) := by decide +kernel
theorem d_TC_tellMobiles_42 : decode b_TC_tellMobiles 42 = .ok (.getfield 25, 3) := by decide +kernel
theorem d_TC_tellMobiles_45 : decode b_TC_tellMobiles 45 = .ok (.iload_n 3, 1) := by decide +kernel
theorem d_TC_tellMobiles_46 : decode b_TC_tellMobiles 46 = .ok (.aaload, 1) := by decide +kernel
theorem d_TC_tellMobiles_47 : decode b_TC_tellMobiles 47 = .ok (.iload 4, 2) := by decide +kernel
theorem d_TC_tellMobiles_49 : decode b_TC_tellMobiles 49 = .ok (.aload_n 0, 1) := by decide +kernel
theorem d_TC_tellMobiles_50 : decode b_TC_tellMobiles 50 = .ok (.getfield 19, 3) := by decide +kernel
theorem d_TC_tellMobiles_53 : decode b_TC_tellMobiles 53 = .ok (.iload_n 3, 1) := by decide +kernel
theorem d_TC_tellMobiles_54 : decode b_TC_tellMobiles 54 = .ok (.iload 4, 2) := by decide +kernel
theorem d_TC_tellMobiles_56 : decode b_TC_tellMobiles 56 = .ok (.invokestatic 228, 3) := by decide +kernel
theorem d_TC_tellMobiles_59 : decode b_TC_tellMobiles 59 = .ok (.invokevirtual 231, 3) := by decide +kernel
theorem d_TC_tellMobiles_62 : decode b_TC_tellMobiles 62 = .ok (.invokevirtual 234, 3) := by decide +kernel
theorem d_TC_tellMobiles_65 : decode b_TC_tellMobiles 65 = .ok (.iinc 3 (1), 3) := by decide +kernel
theorem d_TC_tellMobiles_68 : decode b_TC_tellMobiles 68 = .ok (.goto (-66), 3) := by decide +kernel
theorem d_TC_tellMobiles_71 : decode b_TC_tellMobiles 71 = .ok (.return_, 1) := by decide +kernel
theorem d_TC_settleMessages_0 : decode b_TC_settleMessages 0 = .ok (.iconst (0), 1) := by decide +kernel
theorem d_TC_settleMessages_1 : decode b_TC_settleMessages 1 = .ok (.istore_n 2, 1) := by decide +kernel
theorem d_TC_settleMessages_2 : decode b_TC_settleMessages 2 = .ok (.iload_n 2, 1) := by decide +kernel
theorem d_TC_settleMessages_3 : decode b_TC_settleMessages 3 = .ok (.bipush (8), 2) := by decide +kernel
theorem d_TC_settleMessages_5 : decode b_TC_settleMessages 5 = .ok (.if_icmp .ge (31), 3) := by decide +kernel
theorem d_TC_settleMessages_8 : decode b_TC_settleMessages 8 = .ok (.aload_n 0, 1) := by decide +kernel
theorem d_TC_settleMessages_9 : decode b_TC_settleMessages 9 = .ok (.getfield 25, 3) := by decide +kernel
theorem d_TC_settleMessages_12 : decode b_TC_settleMessages 12 = .ok (.iload_n 2, 1) := by decide +kernel
theorem d_TC_settleMessages_13 : decode b_TC_settleMessages 13 = .ok (.aaload, 1) := by decide +kernel
theorem d_TC_settleMessages_14 : decode b_TC_settleMessages 14 = .ok (.getfield 61, 3) := by decide +kernel
theorem d_TC_settleMessages_17 : decode b_TC_settleMessages 17 = .ok (.iload_n 1, 1) := by decide +kernel
theorem d_TC_settleMessages_18 : decode b_TC_settleMessages 18 = .ok (.if_icmp .ne (12), 3) := by decide +kernel
theorem d_TC_settleMessages_21 : decode b_TC_settleMessages 21 = .ok (.aload_n 0, 1) := by decide +kernel
theorem d_TC_settleMessages_22 : decode b_TC_settleMessages 22 = .ok (.getfield 25, 3) := by decide +kernel
theorem d_TC_settleMessages_25 : decode b_TC_settleMessages 25 = .ok (.iload_n 2, 1) := by decide +kernel
theorem d_TC_settleMessages_26 : decode b_TC_settleMessages 26 = .ok (.aaload, 1) := by decide +kernel
theorem d_TC_settleMessages_27 : decode b_TC_settleMessages 27 = .ok (.invokevirtual 238, 3) := by decide +kernel
theorem d_TC_settleMessages_30 : decode b_TC_settleMessages 30 = .ok (.iinc 2 (1), 3) := by decide +kernel
theorem d_TC_settleMessages_33 : decode b_TC_settleMessages 33 = .ok (.goto (-31), 3) := by decide +kernel
theorem d_TC_settleMessages_36 : decode b_TC_settleMessages 36 = .ok (.return_, 1) := by decide +kernel
theorem d_TC_runControl_0 : decode b_TC_runControl 0 = .ok (.iconst (0), 1) := by decide +kernel
theorem d_TC_runControl_1 : decode b_TC_runControl 1 = .ok (.istore_n 2, 1) := by decide +kernel
theorem d_TC_runControl_2 : decode b_TC_runControl 2 = .ok (.iload_n 2, 1) := by decide +kernel
theorem d_TC_runControl_3 : decode b_TC_runControl 3 = .ok (.iconst (3), 1) := by decide +kernel
theorem d_TC_runControl_4 : decode b_TC_runControl 4 = .ok (.if_icmp .ge (119), 3) := by decide +kernel
theorem d_TC_runControl_7 : decode b_TC_runControl 7 = .ok (.aload_n 0, 1) := by decide +kernel
theorem d_TC_runControl_8 : decode b_TC_runControl 8 = .ok (.iload_n 2, 1) := by decide +kernel
theorem d_TC_runControl_9 : decode b_TC_runControl 9 = .ok (.iload_n 1, 1) := by decide +kernel
theorem d_TC_runControl_10 : decode b_TC_runControl 10 = .ok (.invokevirtual 189, 3) := by decide +kernel
theorem d_TC_runControl_13 : decode b_TC_runControl 13 = .ok (.istore_n 3, 1) := by decide +kernel
theorem d_TC_runControl_14 : decode b_TC_runControl 14 = .ok (.iload_n 3, 1) := by decide +kernel
theorem d_TC_runControl_15 : decode b_TC_runControl 15 = .ok (.iconst (-1), 1) := by decide +kernel
theorem d_TC_runControl_16 : decode b_TC_runControl 16 = .ok (.if_icmp .ne (7), 3) := by decide +kernel
theorem d_TC_runControl_19 : decode b_TC_runControl 19 = .ok (.iconst (-1), 1) := by decide +kernel
theorem d_TC_runControl_20 : decode b_TC_runControl 20 = .ok (.goto (13), 3) := by decide +kernel
theorem d_TC_runControl_23 : decode b_TC_runControl 23 = .ok (.aload_n 0, 1) := by decide +kernel
theorem d_TC_runControl_24 : decode b_TC_runControl 24 = .ok (.iload_n 2, 1) := by decide +kernel
theorem d_TC_runControl_25 : decode b_TC_runControl 25 = .ok (.iload_n 3, 1) := by decide +kernel
theorem d_TC_runControl_26 : decode b_TC_runControl 26 = .ok (.iload_n 2, 1) := by decide +kernel
theorem d_TC_runControl_27 : decode b_TC_runControl 27 = .ok (.invokestatic 193, 3) := by decide +kernel
theorem d_TC_runControl_30 : decode b_TC_runControl 30 = .ok (.invokevirtual 196, 3) := by decide +kernel
theorem d_TC_runControl_33 : decode b_TC_runControl 33 = .ok (.istore 4, 2) := by decide +kernel
theorem d_TC_runControl_35 : decode b_TC_runControl 35 = .ok (.iload 4, 2) := by decide +kernel
theorem d_TC_runControl_37 : decode b_TC_runControl 37 = .ok (.iconst (-1), 1) := by decide +kernel
theorem d_TC_runControl_38 : decode b_TC_runControl 38 = .ok (.if_icmp .eq (47), 3) := by decide +kernel
theorem d_TC_runControl_41 : decode b_TC_runControl 41 = .ok (.iload 4, 2) := by decide +kernel
theorem d_TC_runControl_43 : decode b_TC_runControl 43 = .ok (.invokestatic 200, 3) := by decide +kernel
theorem d_TC_runControl_46 : decode b_TC_runControl 46 = .ok (.ifCond .eq (39), 3) := by decide +kernel
theorem d_TC_runControl_49 : decode b_TC_runControl 49 = .ok (.aload_n 0, 1) := by decide +kernel
theorem d_TC_runControl_50 : decode b_TC_runControl 50 = .ok (.getfield 19, 3) := by decide +kernel
theorem d_TC_runControl_53 : decode b_TC_runControl 53 = .ok (.getfield 151, 3) := by decide +kernel
theorem d_TC_runControl_56 : decode b_TC_runControl 56 = .ok (.iload_n 2, 1) := by decide +kernel
theorem d_TC_runControl_57 : decode b_TC_runControl 57 = .ok (.aaload, 1) := by decide +kernel
theorem d_TC_runControl_58 : decode b_TC_runControl 58 = .ok (.bipush (8), 2) := by decide +kernel
theorem d_TC_runControl_60 : decode b_TC_runControl 60 = .ok (.iload 4, 2) := by decide +kernel
theorem d_TC_runControl_62 : decode b_TC_runControl 62 = .ok (.invokestatic 203, 3) := by decide +kernel
theorem d_TC_runControl_65 : decode b_TC_runControl 65 = .ok (.iconst (0), 1) := by decide +kernel
theorem d_TC_runControl_66 : decode b_TC_runControl 66 = .ok (.iconst (0), 1) := by decide +kernel
theorem d_TC_runControl_67 : decode b_TC_runControl 67 = .ok (.iconst (0), 1) := by decide +kernel
theorem d_TC_runControl_68 : decode b_TC_runControl 68 = .ok (.invokestatic 85, 3) := by decide +kernel
theorem d_TC_runControl_71 : decode b_TC_runControl 71 = .ok (.invokevirtual 206, 3) := by decide +kernel
theorem d_TC_runControl_74 : decode b_TC_runControl 74 = .ok (.aload_n 0, 1) := by decide +kernel
theorem d_TC_runControl_75 : decode b_TC_runControl 75 = .ok (.getfield 19, 3) := by decide +kernel
theorem d_TC_runControl_78 : decode b_TC_runControl 78 = .ok (.iload 4, 2) := by decide +kernel
theorem d_TC_runControl_80 : decode b_TC_runControl 80 = .ok (.iload_n 2, 1) := by decide +kernel
theorem d_TC_runControl_81 : decode b_TC_runControl 81 = .ok (.iload_n 1, 1) := by decide +kernel
theorem d_TC_runControl_82 : decode b_TC_runControl 82 = .ok (.invokevirtual 209, 3) := by decide +kernel
theorem d_TC_runControl_85 : decode b_TC_runControl 85 = .ok (.aload_n 0, 1) := by decide +kernel
theorem d_TC_runControl_86 : decode b_TC_runControl 86 = .ok (.getfield 19, 3) := by decide +kernel
theorem d_TC_runControl_89 : decode b_TC_runControl 89 = .ok (.getfield 151, 3) := by decide +kernel
theorem d_TC_runControl_92 : decode b_TC_runControl 92 = .ok (.iload_n 2, 1) := by decide +kernel
theorem d_TC_runControl_93 : decode b_TC_runControl 93 = .ok (.aaload, 1) := by decide +kernel
theorem d_TC_runControl_94 : decode b_TC_runControl 94 = .ok (.invokevirtual 213, 3) := by decide +kernel
theorem d_TC_runControl_97 : decode b_TC_runControl 97 = .ok (.istore 5, 2) := by decide +kernel
theorem d_TC_runControl_99 : decode b_TC_runControl 99 = .ok (.iload 5, 2) := by decide +kernel
theorem d_TC_runControl_101 : decode b_TC_runControl 101 = .ok (.iconst (-1), 1) := by decide +kernel
theorem d_TC_runControl_102 : decode b_TC_runControl 102 = .ok (.if_icmp .eq (10), 3) := by decide +kernel
theorem d_TC_runControl_105 : decode b_TC_runControl 105 = .ok (.aload_n 0, 1) := by decide +kernel
theorem d_TC_runControl_106 : decode b_TC_runControl 106 = .ok (.iload_n 2, 1) := by decide +kernel
theorem d_TC_runControl_107 : decode b_TC_runControl 107 = .ok (.iload 5, 2) := by decide +kernel
theorem d_TC_runControl_109 : decode b_TC_runControl 109 = .ok (.invokevirtual 216, 3) := by decide +kernel
theorem d_TC_runControl_112 : decode b_TC_runControl 112 = .ok (.aload_n 0, 1) := by decide +kernel
theorem d_TC_runControl_113 : decode b_TC_runControl 113 = .ok (.iload_n 2, 1) := by decide +kernel
theorem d_TC_runControl_114 : decode b_TC_runControl 114 = .ok (.invokevirtual 219, 3) := by decide +kernel
theorem d_TC_runControl_117 : decode b_TC_runControl 117 = .ok (.iinc 2 (1), 3) := by decide +kernel
theorem d_TC_runControl_120 : decode b_TC_runControl 120 = .ok (.goto (-118), 3) := by decide +kernel
theorem d_TC_runControl_123 : decode b_TC_runControl 123 = .ok (.return_, 1) := by decide +kernel
theorem d_TC_talkerOn_0 : decode b_TC_talkerOn 0 = .ok (.iconst (0), 1) := by decide +kernel
theorem d_TC_talkerOn_1 : decode b_TC_talkerOn 1 = .ok (.istore_n 2, 1) := by decide +kernel
theorem d_TC_talkerOn_2 : decode b_TC_talkerOn 2 = .ok (.iload_n 2, 1) := by decide +kernel
theorem d_TC_talkerOn_3 : decode b_TC_talkerOn 3 = .ok (.bipush (8), 2) := by decide +kernel
theorem d_TC_talkerOn_5 : decode b_TC_talkerOn 5 = .ok (.if_icmp .ge (30), 3) := by decide +kernel
theorem d_TC_talkerOn_8 : decode b_TC_talkerOn 8 = .ok (.aload_n 0, 1) := by decide +kernel
theorem d_TC_talkerOn_9 : decode b_TC_talkerOn 9 = .ok (.getfield 25, 3) := by decide +kernel
theorem d_TC_talkerOn_12 : decode b_TC_talkerOn 12 = .ok (.iload_n 2, 1) := by decide +kernel
theorem d_TC_talkerOn_13 : decode b_TC_talkerOn 13 = .ok (.aaload, 1) := by decide +kernel
theorem d_TC_talkerOn_14 : decode b_TC_talkerOn 14 = .ok (.iload_n 1, 1) := by decide +kernel
theorem d_TC_talkerOn_15 : decode b_TC_talkerOn 15 = .ok (.iconst (1), 1) := by decide +kernel
theorem d_TC_talkerOn_16 : decode b_TC_talkerOn 16 = .ok (.invokevirtual 264, 3) := by decide +kernel
theorem d_TC_talkerOn_19 : decode b_TC_talkerOn 19 = .ok (.ifCond .eq (10), 3) := by decide +kernel
theorem d_TC_talkerOn_22 : decode b_TC_talkerOn 22 = .ok (.aload_n 0, 1) := by decide +kernel
theorem d_TC_talkerOn_23 : decode b_TC_talkerOn 23 = .ok (.getfield 25, 3) := by decide +kernel
theorem d_TC_talkerOn_26 : decode b_TC_talkerOn 26 = .ok (.iload_n 2, 1) := by decide +kernel
theorem d_TC_talkerOn_27 : decode b_TC_talkerOn 27 = .ok (.aaload, 1) := by decide +kernel
theorem d_TC_talkerOn_28 : decode b_TC_talkerOn 28 = .ok (.areturn, 1) := by decide +kernel
theorem d_TC_talkerOn_29 : decode b_TC_talkerOn 29 = .ok (.iinc 2 (1), 3) := by decide +kernel
theorem d_TC_talkerOn_32 : decode b_TC_talkerOn 32 = .ok (.goto (-30), 3) := by decide +kernel
theorem d_TC_talkerOn_35 : decode b_TC_talkerOn 35 = .ok (.aconst_null, 1) := by decide +kernel
theorem d_TC_talkerOn_36 : decode b_TC_talkerOn 36 = .ok (.areturn, 1) := by decide +kernel
theorem d_TC_sendOn_0 : decode b_TC_sendOn 0 = .ok (.iconst (0), 1) := by decide +kernel
theorem d_TC_sendOn_1 : decode b_TC_sendOn 1 = .ok (.istore 4, 2) := by decide +kernel
theorem d_TC_sendOn_3 : decode b_TC_sendOn 3 = .ok (.iload 4, 2) := by decide +kernel
theorem d_TC_sendOn_5 : decode b_TC_sendOn 5 = .ok (.bipush (8), 2) := by decide +kernel
theorem d_TC_sendOn_7 : decode b_TC_sendOn 7 = .ok (.if_icmp .ge (80), 3) := by decide +kernel
theorem d_TC_sendOn_10 : decode b_TC_sendOn 10 = .ok (.aload_n 0, 1) := by decide +kernel
theorem d_TC_sendOn_11 : decode b_TC_sendOn 11 = .ok (.getfield 25, 3) := by decide +kernel
theorem d_TC_sendOn_14 : decode b_TC_sendOn 14 = .ok (.iload 4, 2) := by decide +kernel
theorem d_TC_sendOn_16 : decode b_TC_sendOn 16 = .ok (.aaload, 1) := by decide +kernel
theorem d_TC_sendOn_17 : decode b_TC_sendOn 17 = .ok (.astore 5, 2) := by decide +kernel
theorem d_TC_sendOn_19 : decode b_TC_sendOn 19 = .ok (.aload 5, 2) := by decide +kernel
theorem d_TC_sendOn_21 : decode b_TC_sendOn 21 = .ok (.iload_n 2, 1) := by decide +kernel
theorem d_TC_sendOn_22 : decode b_TC_sendOn 22 = .ok (.iconst (2), 1) := by decide +kernel
theorem d_TC_sendOn_23 : decode b_TC_sendOn 23 = .ok (.invokevirtual 264, 3) := by decide +kernel
theorem d_TC_sendOn_26 : decode b_TC_sendOn 26 = .ok (.ifCond .eq (55), 3) := by decide +kernel
theorem d_TC_sendOn_29 : decode b_TC_sendOn 29 = .ok (.aload_n 0, 1) := by decide +kernel
theorem d_TC_sendOn_30 : decode b_TC_sendOn 30 = .ok (.iconst (3), 1) := by decide +kernel
theorem d_TC_sendOn_31 : decode b_TC_sendOn 31 = .ok (.iload 4, 2) := by decide +kernel
theorem d_TC_sendOn_33 : decode b_TC_sendOn 33 = .ok (.iadd, 1) := by decide +kernel
theorem d_TC_sendOn_34 : decode b_TC_sendOn 34 = .ok (.iload_n 1, 1) := by decide +kernel
theorem d_TC_sendOn_35 : decode b_TC_sendOn 35 = .ok (.aload 5, 2) := by decide +kernel
theorem d_TC_sendOn_37 : decode b_TC_sendOn 37 = .ok (.getfield 61, 3) := by decide +kernel
theorem d_TC_sendOn_40 : decode b_TC_sendOn 40 = .ok (.invokestatic 193, 3) := by decide +kernel
theorem d_TC_sendOn_43 : decode b_TC_sendOn 43 = .ok (.invokevirtual 196, 3) := by decide +kernel
theorem d_TC_sendOn_46 : decode b_TC_sendOn 46 = .ok (.istore 6, 2) := by decide +kernel
theorem d_TC_sendOn_48 : decode b_TC_sendOn 48 = .ok (.iload 6, 2) := by decide +kernel
theorem d_TC_sendOn_50 : decode b_TC_sendOn 50 = .ok (.iconst (-1), 1) := by decide +kernel
theorem d_TC_sendOn_51 : decode b_TC_sendOn 51 = .ok (.if_icmp .eq (30), 3) := by decide +kernel
theorem d_TC_sendOn_54 : decode b_TC_sendOn 54 = .ok (.aload 5, 2) := by decide +kernel
theorem d_TC_sendOn_56 : decode b_TC_sendOn 56 = .ok (.iload 6, 2) := by decide +kernel
theorem d_TC_sendOn_58 : decode b_TC_sendOn 58 = .ok (.aload_n 0, 1) := by decide +kernel
theorem d_TC_sendOn_59 : decode b_TC_sendOn 59 = .ok (.getfield 19, 3) := by decide +kernel
theorem d_TC_sendOn_62 : decode b_TC_sendOn 62 = .ok (.getfield 51, 3) := by decide +kernel
theorem d_TC_sendOn_65 : decode b_TC_sendOn 65 = .ok (.aload 5, 2) := by decide +kernel
theorem d_TC_sendOn_67 : decode b_TC_sendOn 67 = .ok (.getfield 245, 3) := by decide +kernel
theorem d_TC_sendOn_70 : decode b_TC_sendOn 70 = .ok (.aaload, 1) := by decide +kernel
theorem d_TC_sendOn_71 : decode b_TC_sendOn 71 = .ok (.getfield 55, 3) := by decide +kernel
theorem d_TC_sendOn_74 : decode b_TC_sendOn 74 = .ok (.iload_n 3, 1) := by decide +kernel
theorem d_TC_sendOn_75 : decode b_TC_sendOn 75 = .ok (.invokestatic 248, 3) := by decide +kernel
theorem d_TC_sendOn_78 : decode b_TC_sendOn 78 = .ok (.invokevirtual 267, 3) := by decide +kernel
theorem d_TC_sendOn_81 : decode b_TC_sendOn 81 = .ok (.iinc 4 (1), 3) := by decide +kernel
theorem d_TC_sendOn_84 : decode b_TC_sendOn 84 = .ok (.goto (-81), 3) := by decide +kernel
theorem d_TC_sendOn_87 : decode b_TC_sendOn 87 = .ok (.return_, 1) := by decide +kernel
theorem d_TC_runTraffic_0 : decode b_TC_runTraffic 0 = .ok (.aload_n 0, 1) := by decide +kernel
theorem d_TC_runTraffic_1 : decode b_TC_runTraffic 1 = .ok (.iload_n 1, 1) := by decide +kernel
theorem d_TC_runTraffic_2 : decode b_TC_runTraffic 2 = .ok (.invokevirtual 241, 3) := by decide +kernel
theorem d_TC_runTraffic_5 : decode b_TC_runTraffic 5 = .ok (.astore_n 3, 1) := by decide +kernel
theorem d_TC_runTraffic_6 : decode b_TC_runTraffic 6 = .ok (.aload_n 3, 1) := by decide +kernel
theorem d_TC_runTraffic_7 : decode b_TC_runTraffic 7 = .ok (.ifnonnull (4), 3) := by decide +kernel
theorem d_TC_runTraffic_10 : decode b_TC_runTraffic 10 = .ok (.return_, 1) := by decide +kernel
theorem d_TC_runTraffic_11 : decode b_TC_runTraffic 11 = .ok (.aload_n 3, 1) := by decide +kernel
theorem d_TC_runTraffic_12 : decode b_TC_runTraffic 12 = .ok (.aload_n 0, 1) := by decide +kernel
theorem d_TC_runTraffic_13 : decode b_TC_runTraffic 13 = .ok (.getfield 19, 3) := by decide +kernel
theorem d_TC_runTraffic_16 : decode b_TC_runTraffic 16 = .ok (.getfield 51, 3) := by decide +kernel
theorem d_TC_runTraffic_19 : decode b_TC_runTraffic 19 = .ok (.aload_n 3, 1) := by decide +kernel
theorem d_TC_runTraffic_20 : decode b_TC_runTraffic 20 = .ok (.getfield 245, 3) := by decide +kernel
theorem d_TC_runTraffic_23 : decode b_TC_runTraffic 23 = .ok (.aaload, 1) := by decide +kernel
theorem d_TC_runTraffic_24 : decode b_TC_runTraffic 24 = .ok (.getfield 55, 3) := by decide +kernel
theorem d_TC_runTraffic_27 : decode b_TC_runTraffic 27 = .ok (.iload_n 2, 1) := by decide +kernel
theorem d_TC_runTraffic_28 : decode b_TC_runTraffic 28 = .ok (.invokestatic 248, 3) := by decide +kernel
theorem d_TC_runTraffic_31 : decode b_TC_runTraffic 31 = .ok (.invokevirtual 251, 3) := by decide +kernel
theorem d_TC_runTraffic_34 : decode b_TC_runTraffic 34 = .ok (.istore 4, 2) := by decide +kernel
theorem d_TC_runTraffic_36 : decode b_TC_runTraffic 36 = .ok (.aload_n 0, 1) := by decide +kernel
theorem d_TC_runTraffic_37 : decode b_TC_runTraffic 37 = .ok (.aload_n 3, 1) := by decide +kernel
theorem d_TC_runTraffic_38 : decode b_TC_runTraffic 38 = .ok (.getfield 61, 3) := by decide +kernel
theorem d_TC_runTraffic_41 : decode b_TC_runTraffic 41 = .ok (.iload 4, 2) := by decide +kernel
theorem d_TC_runTraffic_43 : decode b_TC_runTraffic 43 = .ok (.aload_n 3, 1) := by decide +kernel
theorem d_TC_runTraffic_44 : decode b_TC_runTraffic 44 = .ok (.getfield 61, 3) := by decide +kernel
theorem d_TC_runTraffic_47 : decode b_TC_runTraffic 47 = .ok (.invokestatic 193, 3) := by decide +kernel
theorem d_TC_runTraffic_50 : decode b_TC_runTraffic 50 = .ok (.invokevirtual 196, 3) := by decide +kernel
theorem d_TC_runTraffic_53 : decode b_TC_runTraffic 53 = .ok (.istore 5, 2) := by decide +kernel
theorem d_TC_runTraffic_55 : decode b_TC_runTraffic 55 = .ok (.aload_n 0, 1) := by decide +kernel
theorem d_TC_runTraffic_56 : decode b_TC_runTraffic 56 = .ok (.getfield 19, 3) := by decide +kernel
theorem d_TC_runTraffic_59 : decode b_TC_runTraffic 59 = .ok (.iload_n 1, 1) := by decide +kernel
theorem d_TC_runTraffic_60 : decode b_TC_runTraffic 60 = .ok (.invokevirtual 254, 3) := by decide +kernel
theorem d_TC_runTraffic_63 : decode b_TC_runTraffic 63 = .ok (.istore 6, 2) := by decide +kernel
theorem d_TC_runTraffic_65 : decode b_TC_runTraffic 65 = .ok (.iload 5, 2) := by decide +kernel
theorem d_TC_runTraffic_67 : decode b_TC_runTraffic 67 = .ok (.iconst (-1), 1) := by decide +kernel
theorem d_TC_runTraffic_68 : decode b_TC_runTraffic 68 = .ok (.if_icmp .eq (9), 3) := by decide +kernel
theorem d_TC_runTraffic_71 : decode b_TC_runTraffic 71 = .ok (.iload 6, 2) := by decide +kernel
theorem d_TC_runTraffic_73 : decode b_TC_runTraffic 73 = .ok (.iconst (-1), 1) := by decide +kernel
theorem d_TC_runTraffic_74 : decode b_TC_runTraffic 74 = .ok (.if_icmp .ne (4), 3) := by decide +kernel
theorem d_TC_runTraffic_77 : decode b_TC_runTraffic 77 = .ok (.return_, 1) := by decide +kernel
theorem d_TC_runTraffic_78 : decode b_TC_runTraffic 78 = .ok (.iload 5, 2) := by decide +kernel
theorem d_TC_runTraffic_80 : decode b_TC_runTraffic 80 = .ok (.ldc_w 257, 3) := by decide +kernel
theorem d_TC_runTraffic_83 : decode b_TC_runTraffic 83 = .ok (.iand, 1) := by decide +kernel
theorem d_TC_runTraffic_84 : decode b_TC_runTraffic 84 = .ok (.ifCond .eq (16), 3) := by decide +kernel
theorem d_TC_runTraffic_87 : decode b_TC_runTraffic 87 = .ok (.aload_n 0, 1) := by decide +kernel
theorem d_TC_runTraffic_88 : decode b_TC_runTraffic 88 = .ok (.getfield 19, 3) := by decide +kernel
theorem d_TC_runTraffic_91 : decode b_TC_runTraffic 91 = .ok (.iload 6, 2) := by decide +kernel
theorem d_TC_runTraffic_93 : decode b_TC_runTraffic 93 = .ok (.iload_n 2, 1) := by decide +kernel
theorem d_TC_runTraffic_94 : decode b_TC_runTraffic 94 = .ok (.invokevirtual 258, 3) := by decide +kernel
theorem d_TC_runTraffic_97 : decode b_TC_runTraffic 97 = .ok (.goto (11), 3) := by decide +kernel
theorem d_TC_runTraffic_100 : decode b_TC_runTraffic 100 = .ok (.aload_n 0, 1) := by decide +kernel
theorem d_TC_runTraffic_101 : decode b_TC_runTraffic 101 = .ok (.iload 5, 2) := by decide +kernel
theorem d_TC_runTraffic_103 : decode b_TC_runTraffic 103 = .ok (.iload_n 1, 1) := by decide +kernel
theorem d_TC_runTraffic_104 : decode b_TC_runTraffic 104 = .ok (.iload_n 2, 1) := by decide +kernel
theorem d_TC_runTraffic_105 : decode b_TC_runTraffic 105 = .ok (.invokevirtual 261, 3) := by decide +kernel
theorem d_TC_runTraffic_108 : decode b_TC_runTraffic 108 = .ok (.return_, 1) := by decide +kernel
theorem d_TC_mobile_0 : decode b_TC_mobile 0 = .ok (.iload_n 1, 1) := by decide +kernel
theorem d_TC_mobile_1 : decode b_TC_mobile 1 = .ok (.bipush (8), 2) := by decide +kernel
theorem d_TC_mobile_3 : decode b_TC_mobile 3 = .ok (.invokestatic 136, 3) := by decide +kernel
theorem d_TC_mobile_6 : decode b_TC_mobile 6 = .ok (.ifCond .ne (5), 3) := by decide +kernel
theorem d_TC_mobile_9 : decode b_TC_mobile 9 = .ok (.iconst (-1), 1) := by decide +kernel
theorem d_TC_mobile_10 : decode b_TC_mobile 10 = .ok (.ireturn, 1) := by decide +kernel
theorem d_TC_mobile_11 : decode b_TC_mobile 11 = .ok (.iload_n 2, 1) := by decide +kernel
theorem d_TC_mobile_12 : decode b_TC_mobile 12 = .ok (.bipush (13), 2) := by decide +kernel
theorem d_TC_mobile_14 : decode b_TC_mobile 14 = .ok (.if_icmp .ne (15), 3) := by decide +kernel
theorem d_TC_mobile_17 : decode b_TC_mobile 17 = .ok (.aload_n 0, 1) := by decide +kernel
theorem d_TC_mobile_18 : decode b_TC_mobile 18 = .ok (.getfield 19, 3) := by decide +kernel
theorem d_TC_mobile_21 : decode b_TC_mobile 21 = .ok (.getfield 140, 3) := by decide +kernel
theorem d_TC_mobile_24 : decode b_TC_mobile 24 = .ok (.iload_n 1, 1) := by decide +kernel
theorem d_TC_mobile_25 : decode b_TC_mobile 25 = .ok (.iaload, 1) := by decide +kernel
theorem d_TC_mobile_26 : decode b_TC_mobile 26 = .ok (.goto (13), 3) := by decide +kernel
theorem d_TC_mobile_29 : decode b_TC_mobile 29 = .ok (.aload_n 0, 1) := by decide +kernel
theorem d_TC_mobile_30 : decode b_TC_mobile 30 = .ok (.getfield 25, 3) := by decide +kernel
theorem d_TC_mobile_33 : decode b_TC_mobile 33 = .ok (.iload_n 1, 1) := by decide +kernel
theorem d_TC_mobile_34 : decode b_TC_mobile 34 = .ok (.aaload, 1) := by decide +kernel
theorem d_TC_mobile_35 : decode b_TC_mobile 35 = .ok (.iload_n 2, 1) := by decide +kernel
theorem d_TC_mobile_36 : decode b_TC_mobile 36 = .ok (.invokevirtual 143, 3) := by decide +kernel
theorem d_TC_mobile_39 : decode b_TC_mobile 39 = .ok (.ireturn, 1) := by decide +kernel
theorem d_TC_call_0 : decode b_TC_call 0 = .ok (.iload_n 1, 1) := by decide +kernel
theorem d_TC_call_1 : decode b_TC_call 1 = .ok (.iconst (4), 1) := by decide +kernel
theorem d_TC_call_2 : decode b_TC_call 2 = .ok (.invokestatic 136, 3) := by decide +kernel
theorem d_TC_call_5 : decode b_TC_call 5 = .ok (.ifCond .eq (19), 3) := by decide +kernel
theorem d_TC_call_8 : decode b_TC_call 8 = .ok (.aload_n 0, 1) := by decide +kernel
theorem d_TC_call_9 : decode b_TC_call 9 = .ok (.getfield 19, 3) := by decide +kernel
theorem d_TC_call_12 : decode b_TC_call 12 = .ok (.getfield 51, 3) := by decide +kernel
theorem d_TC_call_15 : decode b_TC_call 15 = .ok (.iload_n 1, 1) := by decide +kernel
theorem d_TC_call_16 : decode b_TC_call 16 = .ok (.aaload, 1) := by decide +kernel
theorem d_TC_call_17 : decode b_TC_call 17 = .ok (.iload_n 2, 1) := by decide +kernel
theorem d_TC_call_18 : decode b_TC_call 18 = .ok (.invokevirtual 147, 3) := by decide +kernel
theorem d_TC_call_21 : decode b_TC_call 21 = .ok (.goto (4), 3) := by decide +kernel
theorem d_TC_call_24 : decode b_TC_call 24 = .ok (.iconst (-1), 1) := by decide +kernel
theorem d_TC_call_25 : decode b_TC_call 25 = .ok (.ireturn, 1) := by decide +kernel
theorem d_TC_waiting_0 : decode b_TC_waiting 0 = .ok (.iload_n 1, 1) := by decide +kernel
theorem d_TC_waiting_1 : decode b_TC_waiting 1 = .ok (.iconst (4), 1) := by decide +kernel
theorem d_TC_waiting_2 : decode b_TC_waiting 2 = .ok (.invokestatic 136, 3) := by decide +kernel
theorem d_TC_waiting_5 : decode b_TC_waiting 5 = .ok (.ifCond .eq (19), 3) := by decide +kernel
theorem d_TC_waiting_8 : decode b_TC_waiting 8 = .ok (.aload_n 0, 1) := by decide +kernel
theorem d_TC_waiting_9 : decode b_TC_waiting 9 = .ok (.getfield 19, 3) := by decide +kernel
theorem d_TC_waiting_12 : decode b_TC_waiting 12 = .ok (.getfield 51, 3) := by decide +kernel
theorem d_TC_waiting_15 : decode b_TC_waiting 15 = .ok (.iload_n 1, 1) := by decide +kernel
theorem d_TC_waiting_16 : decode b_TC_waiting 16 = .ok (.aaload, 1) := by decide +kernel
theorem d_TC_waiting_17 : decode b_TC_waiting 17 = .ok (.iload_n 2, 1) := by decide +kernel
theorem d_TC_waiting_18 : decode b_TC_waiting 18 = .ok (.invokevirtual 148, 3) := by decide +kernel
theorem d_TC_waiting_21 : decode b_TC_waiting 21 = .ok (.goto (4), 3) := by decide +kernel
theorem d_TC_waiting_24 : decode b_TC_waiting 24 = .ok (.iconst (-1), 1) := by decide +kernel
theorem d_TC_waiting_25 : decode b_TC_waiting 25 = .ok (.ireturn, 1) := by decide +kernel
theorem d_TC_saying_0 : decode b_TC_saying 0 = .ok (.iload_n 1, 1) := by decide +kernel
theorem d_TC_saying_1 : decode b_TC_saying 1 = .ok (.iconst (3), 1) := by decide +kernel
theorem d_TC_saying_2 : decode b_TC_saying 2 = .ok (.invokestatic 136, 3) := by decide +kernel
theorem d_TC_saying_5 : decode b_TC_saying 5 = .ok (.ifCond .eq (19), 3) := by decide +kernel
theorem d_TC_saying_8 : decode b_TC_saying 8 = .ok (.aload_n 0, 1) := by decide +kernel
theorem d_TC_saying_9 : decode b_TC_saying 9 = .ok (.getfield 19, 3) := by decide +kernel
theorem d_TC_saying_12 : decode b_TC_saying 12 = .ok (.getfield 151, 3) := by decide +kernel
theorem d_TC_saying_15 : decode b_TC_saying 15 = .ok (.iload_n 1, 1) := by decide +kernel
theorem d_TC_saying_16 : decode b_TC_saying 16 = .ok (.aaload, 1) := by decide +kernel
theorem d_TC_saying_17 : decode b_TC_saying 17 = .ok (.iload_n 2, 1) := by decide +kernel
theorem d_TC_saying_18 : decode b_TC_saying 18 = .ok (.invokevirtual 155, 3) := by decide +kernel
theorem d_TC_saying_21 : decode b_TC_saying 21 = .ok (.goto (4), 3) := by decide +kernel
theorem d_TC_saying_24 : decode b_TC_saying 24 = .ok (.iconst (-1), 1) := by decide +kernel
theorem d_TC_saying_25 : decode b_TC_saying 25 = .ok (.ireturn, 1) := by decide +kernel
theorem d_TC_coded_0 : decode b_TC_coded 0 = .ok (.aload_n 0, 1) := by decide +kernel
theorem d_TC_coded_1 : decode b_TC_coded 1 = .ok (.getfield 10, 3) := by decide +kernel
theorem d_TC_coded_4 : decode b_TC_coded 4 = .ok (.iload_n 1, 1) := by decide +kernel
theorem d_TC_coded_5 : decode b_TC_coded 5 = .ok (.iload_n 2, 1) := by decide +kernel
theorem d_TC_coded_6 : decode b_TC_coded 6 = .ok (.invokevirtual 160, 3) := by decide +kernel
theorem d_TC_coded_9 : decode b_TC_coded 9 = .ok (.lreturn, 1) := by decide +kernel
theorem d_TC_decoded_0 : decode b_TC_decoded 0 = .ok (.aload_n 0, 1) := by decide +kernel
theorem d_TC_decoded_1 : decode b_TC_decoded 1 = .ok (.getfield 10, 3) := by decide +kernel
theorem d_TC_decoded_4 : decode b_TC_decoded 4 = .ok (.lload_n 1, 1) := by decide +kernel
theorem d_TC_decoded_5 : decode b_TC_decoded 5 = .ok (.iload_n 3, 1) := by decide +kernel
theorem d_TC_decoded_6 : decode b_TC_decoded 6 = .ok (.invokevirtual 164, 3) := by decide +kernel
theorem d_TC_decoded_9 : decode b_TC_decoded 9 = .ok (.ireturn, 1) := by decide +kernel
theorem d_TC_distance_0 : decode b_TC_distance 0 = .ok (.aload_n 0, 1) := by decide +kernel
theorem d_TC_distance_1 : decode b_TC_distance 1 = .ok (.getfield 10, 3) := by decide +kernel
theorem d_TC_distance_4 : decode b_TC_distance 4 = .ok (.lload_n 1, 1) := by decide +kernel
theorem d_TC_distance_5 : decode b_TC_distance 5 = .ok (.iload_n 3, 1) := by decide +kernel
theorem d_TC_distance_6 : decode b_TC_distance 6 = .ok (.invokevirtual 168, 3) := by decide +kernel
theorem d_TC_distance_9 : decode b_TC_distance 9 = .ok (.invokestatic 172, 3) := by decide +kernel
theorem d_TC_distance_12 : decode b_TC_distance 12 = .ok (.ireturn, 1) := by decide +kernel
def p_TC_receive (p1 : Int32) (p2 : Int32) (p3 : Int32) (post : Int32 → SI → SJ → Prop) (I : SI) (J : SJ) : Prop :=
  ∃ j1, p1 = nI j1 ∧ j1 < 11 ∧ ∀ x2, x2 = J (13) j1 → ∃ j3, p1 = nI j3 ∧ j3 < 11 ∧ ∀ J4, J4 = xv J (13) j3 (0 : Int64) → ((¬ (lg_cmp x2 (0 : Int64)) = (0) → p_Co_burstOf p2 p3 (fun r7 I5 J6 => p_Co_blockOf (r7 ^^^ x2) p3 (fun r10 I8 J9 => post r10 I8 J9) I5 J6) I J4) ∧ ((lg_cmp x2 (0 : Int64)) = (0) → post p2 I J4))
abbrev rm_TC_receive : Room := { frames := 3, cells := 0, slots := 0, locals := 88 }
def p_TC_sendMessages_66 (p1 : Int32) (p2 : Int32) (post : Int32 → SI → SJ → Prop) (k8 : Int32 → Int32 → Int32 → SI → SJ → Prop) (v3 : Int32) (v4 : Int32) (v5 : Int32) (I : SI) (J : SJ) : Prop :=
  ∀ x5, x5 = v5 + (1 : Int32) → k8 v3 v4 x5 I J
def p_TC_sendMessages_L8 (p1 : Int32) (p2 : Int32) (post : Int32 → SI → SJ → Prop) (k72 : Int32 → Int32 → SI → SJ → Prop) : Nat → Int32 → Int32 → Int32 → SI → SJ → Prop
  | 0, _, _, _, _, _ => False
  | n + 1, v3, v4, v5, I, J => (((8 : Int32) ≤ v5 → k72 v3 v4 I J) ∧ (¬ (8 : Int32) ≤ v5 → ∃ j4, v5 = nI j4 ∧ j4 < 8 ∧ ((¬ (I (14 + j4) 6) = p1 → p_TC_sendMessages_66 p1 p2 post (p_TC_sendMessages_L8 p1 p2 post k72 n) v3 v4 v5 I J) ∧ ((I (14 + j4) 6) = p1 → p_Me_isThere j4 (fun r8 I6 J7 => ((r8 = (0) → p_TC_sendMessages_66 p1 p2 post (p_TC_sendMessages_L8 p1 p2 post k72 n) v3 v4 v5 I6 J7) ∧ (¬ r8 = (0) → p_Me_comesUp j4 (fun r11 I9 J10 => ((r11 = (0) → p_TC_sendMessages_66 p1 p2 post (p_TC_sendMessages_L8 p1 p2 post k72 n) v3 v4 v5 I9 J10) ∧ (¬ r11 = (0) → ∀ x12, x12 = v3 + (1 : Int32) → p_Mo_messageBlock j4 p2 (fun r15 I13 J14 => p_TC_sendMessages_66 p1 p2 post (p_TC_sendMessages_L8 p1 p2 post k72 n) x12 r15 v5 I13 J14) I9 J10))) I6 J7))) I J))))
def p_TC_sendMessages (p1 : Int32) (p2 : Int32) (post : Int32 → SI → SJ → Prop) (I : SI) (J : SJ) : Prop :=
  ∀ x1, x1 = (0 : Int32) → ∀ x2, x2 = (-1 : Int32) → ∀ x3, x3 = (0 : Int32) → ∃ n25, p_TC_sendMessages_L8 p1 p2 post (fun z20 z21 I22 J23 => ((¬ z20 = (1 : Int32) → post (-1 : Int32) I22 J23) ∧ (z20 = (1 : Int32) → post z21 I22 J23))) n25 x1 x2 x3 I J
abbrev rm_TC_sendMessages : Room := { frames := 3, cells := 0, slots := 0, locals := 61 }
def p_TC_tellMobiles_65 (p1 : Int32) (p2 : Int32) (post : SI → SJ → Prop) (k2 : Int32 → SI → SJ → Prop) (v3 : Int32) (I : SI) (J : SJ) : Prop :=
  ∀ x3, x3 = v3 + (1 : Int32) → k2 x3 I J
def p_TC_tellMobiles_L2 (p1 : Int32) (p2 : Int32) (post : SI → SJ → Prop) : Nat → Int32 → SI → SJ → Prop
  | 0, _, _, _ => False
  | n + 1, v3, I, J => (((8 : Int32) ≤ v3 → post I J) ∧ (¬ (8 : Int32) ≤ v3 → ∃ j2, v3 = nI j2 ∧ j2 < 8 ∧ ((¬ (I (14 + j2) 6) = p1 → p_TC_tellMobiles_65 p1 p2 post (p_TC_tellMobiles_L2 p1 p2 post n) v3 I J) ∧ ((I (14 + j2) 6) = p1 → p_TC_colourOf p1 (fun r6 I4 J5 => p_TC_receive ((3 : Int32) + v3) p2 r6 (fun r9 I7 J8 => ((r9 = (-1 : Int32) → p_TC_tellMobiles_65 p1 p2 post (p_TC_tellMobiles_L2 p1 p2 post n) v3 I7 J8) ∧ (¬ r9 = (-1 : Int32) → ∃ j10, v3 = nI j10 ∧ j10 < 8 ∧ p_Bk_groupOf r9 (fun r13 I11 J12 => p_Sw_isMember v3 r13 (fun r16 I14 J15 => p_Mo_obey j10 r9 r16 (fun I17 J18 => p_TC_tellMobiles_65 p1 p2 post (p_TC_tellMobiles_L2 p1 p2 post n) v3 I17 J18) I14 J15) I11 J12) I7 J8))) I4 J5) I J))))
def p_TC_tellMobiles (p1 : Int32) (p2 : Int32) (post : SI → SJ → Prop) (I : SI) (J : SJ) : Prop :=
  ∀ x1, x1 = (0 : Int32) → ∃ n22, p_TC_tellMobiles_L2 p1 p2 post n22 x1 I J
abbrev rm_TC_tellMobiles : Room := { frames := 4, cells := 0, slots := 0, locals := 113 }
def p_TC_settleMessages_30 (p1 : Int32) (post : SI → SJ → Prop) (k2 : Int32 → SI → SJ → Prop) (v2 : Int32) (I : SI) (J : SJ) : Prop :=
  ∀ x3, x3 = v2 + (1 : Int32) → k2 x3 I J
def p_TC_settleMessages_L2 (p1 : Int32) (post : SI → SJ → Prop) : Nat → Int32 → SI → SJ → Prop
  | 0, _, _, _ => False
  | n + 1, v2, I, J => (((8 : Int32) ≤ v2 → post I J) ∧ (¬ (8 : Int32) ≤ v2 → ∃ j2, v2 = nI j2 ∧ j2 < 8 ∧ ((¬ (I (14 + j2) 6) = p1 → p_TC_settleMessages_30 p1 post (p_TC_settleMessages_L2 p1 post n) v2 I J) ∧ ((I (14 + j2) 6) = p1 → ∃ j4, v2 = nI j4 ∧ j4 < 8 ∧ p_Mo_settleMessage j4 (fun I5 J6 => p_TC_settleMessages_30 p1 post (p_TC_settleMessages_L2 p1 post n) v2 I5 J6) I J))))
def p_TC_settleMessages (p1 : Int32) (post : SI → SJ → Prop) (I : SI) (J : SJ) : Prop :=
  ∀ x1, x1 = (0 : Int32) → ∃ n9, p_TC_settleMessages_L2 p1 post n9 x1 I J
abbrev rm_TC_settleMessages : Room := { frames := 3, cells := 0, slots := 0, locals := 61 }
def p_TC_runControl_112 (p1 : Int32) (post : SI → SJ → Prop) (k2 : Int32 → SI → SJ → Prop) (v2 : Int32) (I : SI) (J : SJ) : Prop :=
  p_TC_settleMessages v2 (fun I15 J16 => ∀ x17, x17 = v2 + (1 : Int32) → k2 x17 I15 J16) I J
def p_TC_runControl_85 (p1 : Int32) (post : SI → SJ → Prop) (k2 : Int32 → SI → SJ → Prop) (v2 : Int32) (I : SI) (J : SJ) : Prop :=
  ∃ j11, v2 = nI j11 ∧ j11 < 3 ∧ p_Ce_nextToSay j11 (fun r14 I12 J13 => ((r14 = (-1 : Int32) → p_TC_runControl_112 p1 post k2 v2 I12 J13) ∧ (¬ r14 = (-1 : Int32) → p_TC_tellMobiles v2 r14 (fun I18 J19 => p_TC_runControl_112 p1 post k2 v2 I18 J19) I12 J13))) I J
def p_TC_runControl_33 (p1 : Int32) (post : SI → SJ → Prop) (k2 : Int32 → SI → SJ → Prop) (v2 : Int32) (s0 : Int32) (I : SI) (J : SJ) : Prop :=
  ((s0 = (-1 : Int32) → p_TC_runControl_85 p1 post k2 v2 I J) ∧ (¬ s0 = (-1 : Int32) → p_Bk_isFromMobile s0 (fun r23 I21 J22 => ((r23 = (0) → p_TC_runControl_85 p1 post k2 v2 I21 J22) ∧ (¬ r23 = (0) → ∃ j24, v2 = nI j24 ∧ j24 < 3 ∧ p_Bk_mobileOf s0 (fun r27 I25 J26 => p_Bk_of (8 : Int32) r27 (0 : Int32) (0 : Int32) (0 : Int32) (fun r30 I28 J29 => p_Ce_sayFirst j24 r30 (fun I31 J32 => p_Sw_accept s0 v2 p1 (fun I33 J34 => p_TC_runControl_85 p1 post k2 v2 I33 J34) I31 J32) I28 J29) I25 J26) I21 J22))) I J))
def p_TC_runControl_L2 (p1 : Int32) (post : SI → SJ → Prop) : Nat → Int32 → SI → SJ → Prop
  | 0, _, _, _ => False
  | n + 1, v2, I, J => (((3 : Int32) ≤ v2 → post I J) ∧ (¬ (3 : Int32) ≤ v2 → p_TC_sendMessages v2 p1 (fun r4 I2 J3 => ((¬ r4 = (-1 : Int32) → p_TC_colourOf v2 (fun r7 I5 J6 => p_TC_receive v2 r4 r7 (fun r10 I8 J9 => p_TC_runControl_33 p1 post (p_TC_runControl_L2 p1 post n) v2 r10 I8 J9) I5 J6) I2 J3) ∧ (r4 = (-1 : Int32) → p_TC_runControl_33 p1 post (p_TC_runControl_L2 p1 post n) v2 (-1 : Int32) I2 J3))) I J))
def p_TC_runControl (p1 : Int32) (post : SI → SJ → Prop) (I : SI) (J : SJ) : Prop :=
  ∀ x1, x1 = (0 : Int32) → ∃ n39, p_TC_runControl_L2 p1 post n39 x1 I J
abbrev rm_TC_runControl : Room := { frames := 5, cells := 0, slots := 0, locals := 137 }
def p_TC_talkerOn_L2 (p1 : Int32) (post : Option Nat → SI → SJ → Prop) : Nat → Int32 → SI → SJ → Prop
  | 0, _, _, _ => False
  | n + 1, v2, I, J => (((8 : Int32) ≤ v2 → post none I J) ∧ (¬ (8 : Int32) ≤ v2 → ∃ j2, v2 = nI j2 ∧ j2 < 8 ∧ p_Mo_isOn j2 p1 (1 : Int32) (fun r5 I3 J4 => ((r5 = (0) → ∀ x6, x6 = v2 + (1 : Int32) → p_TC_talkerOn_L2 p1 post n x6 I3 J4) ∧ (¬ r5 = (0) → ∃ j7, v2 = nI j7 ∧ j7 < 8 ∧ post (some j7) I3 J4))) I J))
def p_TC_talkerOn (p1 : Int32) (post : Option Nat → SI → SJ → Prop) (I : SI) (J : SJ) : Prop :=
  ∀ x1, x1 = (0 : Int32) → ∃ n10, p_TC_talkerOn_L2 p1 post n10 x1 I J
abbrev rm_TC_talkerOn : Room := { frames := 1, cells := 0, slots := 0, locals := 22 }
def p_TC_sendOn_81 (p1 : Int32) (p2 : Int32) (p3 : Int32) (post : SI → SJ → Prop) (k3 : Int32 → SI → SJ → Prop) (v4 : Int32) (I : SI) (J : SJ) : Prop :=
  ∀ x6, x6 = v4 + (1 : Int32) → k3 x6 I J
def p_TC_sendOn_L3 (p1 : Int32) (p2 : Int32) (p3 : Int32) (post : SI → SJ → Prop) : Nat → Int32 → SI → SJ → Prop
  | 0, _, _, _ => False
  | n + 1, v4, I, J => (((8 : Int32) ≤ v4 → post I J) ∧ (¬ (8 : Int32) ≤ v4 → ∃ j2, v4 = nI j2 ∧ j2 < 8 ∧ p_Mo_isOn j2 p2 (2 : Int32) (fun r5 I3 J4 => ((r5 = (0) → p_TC_sendOn_81 p1 p2 p3 post (p_TC_sendOn_L3 p1 p2 p3 post n) v4 I3 J4) ∧ (¬ r5 = (0) → p_TC_colourOf (I3 (14 + j2) 6) (fun r9 I7 J8 => p_TC_receive ((3 : Int32) + v4) p1 r9 (fun r12 I10 J11 => ((r12 = (-1 : Int32) → p_TC_sendOn_81 p1 p2 p3 post (p_TC_sendOn_L3 p1 p2 p3 post n) v4 I10 J11) ∧ (¬ r12 = (-1 : Int32) → ∃ j13, I10 (14 + j2) 10 = nI j13 ∧ j13 < 4 ∧ p_TC_mix (I10 (38 + j13) 2) p3 (fun r16 I14 J15 => p_Mo_hear j2 r12 r16 (fun I17 J18 => p_TC_sendOn_81 p1 p2 p3 post (p_TC_sendOn_L3 p1 p2 p3 post n) v4 I17 J18) I14 J15) I10 J11))) I7 J8) I3 J4))) I J))
def p_TC_sendOn (p1 : Int32) (p2 : Int32) (p3 : Int32) (post : SI → SJ → Prop) (I : SI) (J : SJ) : Prop :=
  ∀ x1, x1 = (0 : Int32) → ∃ n22, p_TC_sendOn_L3 p1 p2 p3 post n22 x1 I J
abbrev rm_TC_sendOn : Room := { frames := 4, cells := 0, slots := 0, locals := 113 }
def p_TC_runTraffic (p1 : Int32) (p2 : Int32) (post : SI → SJ → Prop) (I : SI) (J : SJ) : Prop :=
  p_TC_talkerOn p1 (fun r27 I1 J2 => ((r27 = none → post I1 J2) ∧ (∀ j3, r27 = some j3 → ∃ j4, I1 (14 + j3) 10 = nI j4 ∧ j4 < 4 ∧ p_TC_mix (I1 (38 + j4) 2) p2 (fun r7 I5 J6 => p_Mo_trafficBlock j3 r7 (fun r10 I8 J9 => p_TC_colourOf (I8 (14 + j3) 6) (fun r13 I11 J12 => p_TC_receive (I8 (14 + j3) 6) r10 r13 (fun r16 I14 J15 => p_Sw_groupOn p1 (fun r19 I17 J18 => ((r16 = (-1 : Int32) → post I17 J18) ∧ (¬ r16 = (-1 : Int32) → ((¬ r19 = (-1 : Int32) → (((r16 &&& (524288 : Int32)) = (0) → p_TC_sendOn r16 p1 p2 (fun I20 J21 => post I20 J21) I17 J18) ∧ (¬ (r16 &&& (524288 : Int32)) = (0) → p_Sw_endTurn r19 p2 (fun I22 J23 => post I22 J23) I17 J18))) ∧ (r19 = (-1 : Int32) → post I17 J18))))) I14 J15) I11 J12) I8 J9) I5 J6) I1 J2))) I J
abbrev rm_TC_runTraffic : Room := { frames := 5, cells := 0, slots := 0, locals := 139 }
def p_TC_mobile (p1 : Int32) (p2 : Int32) (post : Int32 → SI → SJ → Prop) (I : SI) (J : SJ) : Prop :=
  p_TC_isIndex p1 (8 : Int32) (fun r3 I1 J2 => ((¬ r3 = (0) → ((¬ p2 = (13 : Int32) → ∃ j4, p1 = nI j4 ∧ j4 < 8 ∧ p_Mo_tell j4 p2 (fun r7 I5 J6 => post r7 I5 J6) I1 J2) ∧ (p2 = (13 : Int32) → ∃ j8, p1 = nI j8 ∧ j8 < 8 ∧ post (I1 (8) j8) I1 J2))) ∧ (r3 = (0) → post (-1 : Int32) I1 J2))) I J
abbrev rm_TC_mobile : Room := { frames := 3, cells := 0, slots := 0, locals := 61 }
def p_TC_call (p1 : Int32) (p2 : Int32) (post : Int32 → SI → SJ → Prop) (I : SI) (J : SJ) : Prop :=
  p_TC_isIndex p1 (4 : Int32) (fun r3 I1 J2 => ((r3 = (0) → post (-1 : Int32) I1 J2) ∧ (¬ r3 = (0) → ∃ j4, p1 = nI j4 ∧ j4 < 4 ∧ p_Gr_tell j4 p2 (fun r7 I5 J6 => post r7 I5 J6) I1 J2))) I J
abbrev rm_TC_call : Room := { frames := 1, cells := 0, slots := 0, locals := 21 }
def p_TC_waiting (p1 : Int32) (p2 : Int32) (post : Int32 → SI → SJ → Prop) (I : SI) (J : SJ) : Prop :=
  p_TC_isIndex p1 (4 : Int32) (fun r3 I1 J2 => ((r3 = (0) → post (-1 : Int32) I1 J2) ∧ (¬ r3 = (0) → ∃ j4, p1 = nI j4 ∧ j4 < 4 ∧ p_Gr_rowAt j4 p2 (fun r7 I5 J6 => post r7 I5 J6) I1 J2))) I J
abbrev rm_TC_waiting : Room := { frames := 2, cells := 0, slots := 0, locals := 42 }
def p_TC_saying (p1 : Int32) (p2 : Int32) (post : Int32 → SI → SJ → Prop) (I : SI) (J : SJ) : Prop :=
  p_TC_isIndex p1 (3 : Int32) (fun r3 I1 J2 => ((r3 = (0) → post (-1 : Int32) I1 J2) ∧ (¬ r3 = (0) → ∃ j4, p1 = nI j4 ∧ j4 < 3 ∧ p_Ce_sayingAt j4 p2 (fun r7 I5 J6 => post r7 I5 J6) I1 J2))) I J
abbrev rm_TC_saying : Room := { frames := 2, cells := 0, slots := 0, locals := 42 }
def p_TC_coded (p1 : Int32) (p2 : Int32) (post : Int64 → SI → SJ → Prop) (I : SI) (J : SJ) : Prop :=
  p_Co_burstOf p1 p2 (fun r3 I1 J2 => post r3 I1 J2) I J
abbrev rm_TC_coded : Room := { frames := 3, cells := 0, slots := 0, locals := 72 }
def p_TC_decoded (p1 : Int64) (p3 : Int32) (post : Int32 → SI → SJ → Prop) (I : SI) (J : SJ) : Prop :=
  p_Co_blockOf p1 p3 (fun r3 I1 J2 => post r3 I1 J2) I J
abbrev rm_TC_decoded : Room := { frames := 3, cells := 0, slots := 0, locals := 88 }
def p_TC_distance (p1 : Int64) (p3 : Int32) (post : Int32 → SI → SJ → Prop) (I : SI) (J : SJ) : Prop :=
  p_Co_nearest p1 p3 (fun r3 I1 J2 => p_Co_unlikePlaces r3 (fun r6 I4 J5 => post r6 I4 J5) I1 J2) I J
abbrev rm_TC_distance : Room := { frames := 2, cells := 0, slots := 0, locals := 62 }
set_option maxHeartbeats 4000000 in
set_option maxRecDepth 100000 in
theorem c_TC_receive (l : Launch) (D : va_G) (κ : Nat → ClassId) {Θ : Nat → Nat} (hΘ : xJ 52 Θ) (sz : Nat) (p1 : Int32) (p2 : Int32) (p3 : Int32) (I : SI) (J : SJ) (post : Int32 → SI → SJ → Prop) (h : p_TC_receive p1 p2 p3 post I J) : Met l y_TC_receive WS rm_TC_receive (va_Pc [.ref (Θ (0)), .int p1, .int p2, .int p3] (xPR D clA (tysA κ) 52 Θ (eC Θ κ) sz I J)) (xQi D clA 52 Θ (eC Θ κ) sz post) 0 0 (xA 52 Θ sz) := by
  refine xMet (cc := b_TC_receive) (maxL := 6) (ret := (some .int)) (by decide) q_TC_receive.1 ?_
  intro p e s m args below meth c s₁ B hml hv
  obtain ⟨hargs, hsz, hP, hK, hN, hG⟩ := hv
  have hx := B.exec
  have hb := B.bytes
  have hr := B.returns
  have hlocks := B.notSynchronized
  have hts := atoms_spec (ws := WS) B.pre
  have hown : s.vm.findClass R_TC = some m.cls := findClass_of_methodNamed B.named
  have C : xC p m c b_TC_receive 6 s args R_TC D clA (tysA κ) 52 Θ sz := ⟨⟨hx, hb, hml, hown, hts⟩, hK, hN, hG, hsz⟩
  have hS : va_S (xA 52 Θ sz) s.heap s.heap [] := va_S.rf
  have hE := lg_entry_eq m [.ref (Θ (0)), .int p1, .int p2, .int p3] 6
  rw [← hargs] at hE
  rw [hE]
  have hl := lv_entry [.ref (Θ (0)), .int p1, .int p2, .int p3] (n := 6) (Nat.le_of_ble_eq_true rfl)
  generalize (lg_sl [.ref (Θ (0)), .int p1, .int p2, .int p3] ++ List.replicate (6 - (lg_sl [.ref (Θ (0)), .int p1, .int p2, .int p3]).length) Slot.unset).toArray = ls at hl ⊢
  have hl : lv_has ls 6 [(0, .ref (Θ (0))), (1, .int p1), (2, .int p2), (3, .int p3)] := hl
  unfold p_TC_receive at h
  refine lv_aload_n hx hb d_TC_receive_0 rfl (lv_at hl 0 rfl) ?_
  refine gfC_TC_32 C hP d_TC_receive_1 ?_
  refine lv_iload_n hx hb d_TC_receive_4 rfl (lv_at hl 1 rfl) ?_
  obtain ⟨j1, ej1, h_j1, h⟩ := h
  refine x_lald hx hb hK hP (13) 1 (Nat.le_of_ble_eq_true rfl) eC_faults rfl ej1 h_j1 (by decide) d_TC_receive_5 ?_
  refine lv_topl (fun x2 ex2 => ?_)
  have h := h x2 ex2
  refine lv_lstore hx hb d_TC_receive_6 hl (Nat.le_of_ble_eq_true rfl) (lv' := [(4, .long x2), (0, .ref (Θ (0))), (1, .int p1), (2, .int p2), (3, .int p3)]) rfl (fun ls hl => ?_)
  refine lv_aload_n hx hb d_TC_receive_8 rfl (lv_at hl 1 rfl) ?_
  refine gfC_TC_32 C hP d_TC_receive_9 ?_
  refine lv_iload_n hx hb d_TC_receive_12 rfl (lv_at hl 2 rfl) ?_
  refine lv_lconst (v := (0 : Int64)) hx hb d_TC_receive_13 (by decide) ?_
  obtain ⟨j3, ej3, h_j3, h⟩ := h
  refine x_last hx hb hK hΘ hP hS (13) 1 (Nat.le_of_ble_eq_true rfl) eC_faults rfl ej3 h_j3 (by decide) d_TC_receive_14 (fun H locs hP hS => ?_)
  obtain ⟨J4, eJ4⟩ : ∃ y, y = xv J (13) j3 (0 : Int64) := ⟨_, rfl⟩
  have hP : va_P D clA (xw 52 Θ (eC Θ κ) I J4) H := by rw [eJ4]; exact hP
  have h := h J4 eJ4
  refine lv_lload hx hb d_TC_receive_15 (lv_at hl 0 rfl) ?_
  refine lv_lconst (v := (0 : Int64)) hx hb d_TC_receive_17 (by decide) ?_
  refine W.lcmp hx hb d_TC_receive_18 ?_
  refine lv_if_ne hx hb d_TC_receive_19 (tgt := 24) rfl (fun hc11 => ?_) (fun hc11 => ?_)
  · have h := h.1 hc11
    refine lv_aload_n hx hb d_TC_receive_24 rfl (lv_at hl 1 rfl) ?_
    refine gfC_TC_10 C hP d_TC_receive_25 ?_
    refine lv_aload_n hx hb d_TC_receive_28 rfl (lv_at hl 1 rfl) ?_
    refine gfC_TC_10 C hP d_TC_receive_29 ?_
    refine lv_iload_n hx hb d_TC_receive_32 rfl (lv_at hl 3 rfl) ?_
    refine lv_iload_n hx hb d_TC_receive_33 rfl (lv_at hl 4 rfl) ?_
    refine x_gl (x_V C hP hS (Nat.le_of_ble_eq_true rfl) (eC_Co _ _) rfl (c_Co_burstOf l D κ hΘ sz p2 p3 I J4 _ h) q_Co_burstOf k_283 k_284 k_282 rfl rfl ⟨Nat.le_of_ble_eq_true rfl, Nat.le_of_ble_eq_true rfl⟩ rfl hl.1 rfl (Nat.le_of_ble_eq_true rfl) d_TC_receive_34) hS (fun r7 I5 J6 h H locs hP hS => ?_)
    refine lv_lload hx hb d_TC_receive_37 (lv_at hl 0 rfl) ?_
    refine lv_lxor hx hb d_TC_receive_39 ?_
    refine lv_iload_n hx hb d_TC_receive_40 rfl (lv_at hl 4 rfl) ?_
    refine x_gi (x_V C hP hS (Nat.le_of_ble_eq_true rfl) (eC_Co _ _) rfl (c_Co_blockOf l D κ hΘ sz (r7 ^^^ x2) p3 I5 J6 _ h) q_Co_blockOf k_304 k_305 k_303 rfl rfl ⟨Nat.le_of_ble_eq_true rfl, Nat.le_of_ble_eq_true rfl⟩ rfl hl.1 rfl (Nat.le_of_ble_eq_true rfl) d_TC_receive_41) hS (fun r10 I8 J9 h H locs hP hS => ?_)
    exact x_iret hx hb hr hlocks hP hS h d_TC_receive_44
  · have h := h.2 hc11
    refine lv_iload_n hx hb d_TC_receive_22 rfl (lv_at hl 3 rfl) ?_
    exact x_iret hx hb hr hlocks hP hS h d_TC_receive_23
set_option maxHeartbeats 4000000 in
set_option maxRecDepth 100000 in
theorem c_TC_sendMessages (l : Launch) (D : va_G) (κ : Nat → ClassId) {Θ : Nat → Nat} (hΘ : xJ 52 Θ) (sz : Nat) (p1 : Int32) (p2 : Int32) (I : SI) (J : SJ) (post : Int32 → SI → SJ → Prop) (h : p_TC_sendMessages p1 p2 post I J) : Met l y_TC_sendMessages WS rm_TC_sendMessages (va_Pc [.ref (Θ (0)), .int p1, .int p2] (xPR D clA (tysA κ) 52 Θ (eC Θ κ) sz I J)) (xQi D clA 52 Θ (eC Θ κ) sz post) 0 0 (xA 52 Θ sz) := by
  refine xMet (cc := b_TC_sendMessages) (maxL := 7) (ret := (some .int)) (by decide) q_TC_sendMessages.1 ?_
  intro p e s m args below meth c s₁ B hml hv
  obtain ⟨hargs, hsz, hP, hK, hN, hG⟩ := hv
  have hx := B.exec
  have hb := B.bytes
  have hr := B.returns
  have hlocks := B.notSynchronized
  have hts := atoms_spec (ws := WS) B.pre
  have hown : s.vm.findClass R_TC = some m.cls := findClass_of_methodNamed B.named
  have C : xC p m c b_TC_sendMessages 7 s args R_TC D clA (tysA κ) 52 Θ sz := ⟨⟨hx, hb, hml, hown, hts⟩, hK, hN, hG, hsz⟩
  have hS : va_S (xA 52 Θ sz) s.heap s.heap [] := va_S.rf
  have tJ66 : ∀ (k8 : Int32 → Int32 → Int32 → SI → SJ → Prop), (∀ (v3 : Int32) (v4 : Int32) (v5 : Int32) (I : SI) (J : SJ), k8 v3 v4 v5 I J → ∀ (H : Heap) (locs : List Loc) (ls : Array Slot), lv_has ls 7 [(0, .ref (Θ (0))), (1, .int p1), (2, .int p2), (3, .int v3), (4, .int v4), (5, .int v5)] → va_P D clA (xw 52 Θ (eC Θ κ) I J) H → va_S (xA 52 Θ sz) s.heap H locs → W p l e (headSpec WS rm_TC_sendMessages).room s m args below meth c H locs 0 0 (MQ below (xQi D clA 52 Θ (eC Θ κ) sz post) args s 0 0 (xA 52 Θ sz)) (F0 m 8 ls [])) → ∀ (v3 : Int32) (v4 : Int32) (v5 : Int32) (I : SI) (J : SJ), p_TC_sendMessages_66 p1 p2 post k8 v3 v4 v5 I J → ∀ (H : Heap) (locs : List Loc) (ls : Array Slot), lv_has ls 7 [(0, .ref (Θ (0))), (1, .int p1), (2, .int p2), (3, .int v3), (4, .int v4), (5, .int v5)] → va_P D clA (xw 52 Θ (eC Θ κ) I J) H → va_S (xA 52 Θ sz) s.heap H locs → W p l e (headSpec WS rm_TC_sendMessages).room s m args below meth c H locs 0 0 (MQ below (xQi D clA 52 Θ (eC Θ κ) sz post) args s 0 0 (xA 52 Θ sz)) (F0 m 66 ls []) := by
    intro k8 hk8 v3 v4 v5 I J h H locs ls hl hP hS
    unfold p_TC_sendMessages_66 at h
    obtain ⟨x5, ex5⟩ : ∃ y : Int32, y = v5 + (1 : Int32) := ⟨_, rfl⟩
    have h := h x5 ex5
    refine lv_iinc (k := 5) (v := x5) hx hb d_TC_sendMessages_66 hl rfl (by rw [ex5]; rfl) (Nat.le_of_ble_eq_true rfl) (lv' := [(5, .int x5), (0, .ref (Θ (0))), (1, .int p1), (2, .int p2), (3, .int v3), (4, .int v4)]) rfl (fun ls hl => ?_)
    refine lv_goto hx hb d_TC_sendMessages_69 (tgt := 8) rfl ?_
    exact hk8 _ _ _ _ _ h _ _ _ (lv_sub hl [1, 2, 3, 4, 5, 0] rfl) hP hS
  have tL8 : ∀ (k72 : Int32 → Int32 → SI → SJ → Prop), (∀ (v3 : Int32) (v4 : Int32) (I : SI) (J : SJ), k72 v3 v4 I J → ∀ (H : Heap) (locs : List Loc) (ls : Array Slot), lv_has ls 7 [(3, .int v3), (4, .int v4)] → va_P D clA (xw 52 Θ (eC Θ κ) I J) H → va_S (xA 52 Θ sz) s.heap H locs → W p l e (headSpec WS rm_TC_sendMessages).room s m args below meth c H locs 0 0 (MQ below (xQi D clA 52 Θ (eC Θ κ) sz post) args s 0 0 (xA 52 Θ sz)) (F0 m 72 ls [])) → ∀ (n : Nat) (v3 : Int32) (v4 : Int32) (v5 : Int32) (I : SI) (J : SJ), p_TC_sendMessages_L8 p1 p2 post k72 n v3 v4 v5 I J → ∀ (H : Heap) (locs : List Loc) (ls : Array Slot), lv_has ls 7 [(0, .ref (Θ (0))), (1, .int p1), (2, .int p2), (3, .int v3), (4, .int v4), (5, .int v5)] → va_P D clA (xw 52 Θ (eC Θ κ) I J) H → va_S (xA 52 Θ sz) s.heap H locs → W p l e (headSpec WS rm_TC_sendMessages).room s m args below meth c H locs 0 0 (MQ below (xQi D clA 52 Θ (eC Θ κ) sz post) args s 0 0 (xA 52 Θ sz)) (F0 m 8 ls []) := by
    intro k72 hk72 n
    induction n with
    | zero =>
      intro v3 v4 v5 I J h H locs ls hl hP hS
      exact h.elim
    | succ n ih =>
      intro v3 v4 v5 I J h H locs ls hl hP hS
      unfold p_TC_sendMessages_L8 at h
      refine lv_iload hx hb d_TC_sendMessages_8 (lv_at hl 5 rfl) ?_
      refine lv_bipush (v := (8 : Int32)) hx hb d_TC_sendMessages_10 (by decide) ?_
      refine lv_icmp_ge hx hb d_TC_sendMessages_12 (tgt := 72) rfl (fun hc19 => ?_) (fun hc19 => ?_)
      · have h := h.1 hc19
        exact hk72 _ _ _ _ h _ _ _ (lv_sub hl [3, 4] rfl) hP hS
      · have h := h.2 hc19
        refine lv_aload_n hx hb d_TC_sendMessages_15 rfl (lv_at hl 0 rfl) ?_
        refine gfC_TC_25 C hP d_TC_sendMessages_16 ?_
        refine lv_iload hx hb d_TC_sendMessages_19 (lv_at hl 5 rfl) ?_
        obtain ⟨j4, ej4, h_j4, h⟩ := h
        refine x_aald hx hb hK hP (12) 3 (Nat.le_of_ble_eq_true rfl) eC_mobiles rfl ej4 h_j4 (by decide) d_TC_sendMessages_21 ?_
        refine lv_astore hx hb d_TC_sendMessages_22 hl (Nat.le_of_ble_eq_true rfl) (lv' := [(6, .ref (Θ (14 + j4))), (0, .ref (Θ (0))), (1, .int p1), (2, .int p2), (3, .int v3), (4, .int v4), (5, .int v5)]) rfl (fun ls hl => ?_)
        refine lv_aload hx hb d_TC_sendMessages_24 (lv_at hl 0 rfl) ?_
        refine gfC_TC_61 C hP h_j4 d_TC_sendMessages_26 ?_
        refine lv_iload_n hx hb d_TC_sendMessages_29 rfl (lv_at hl 2 rfl) ?_
        refine lv_icmp_ne hx hb d_TC_sendMessages_30 (tgt := 66) rfl (fun hc18 => ?_) (fun hc18 => ?_)
        · have h := h.1 hc18
          exact tJ66 _ ih _ _ _ _ _ h _ _ _ (lv_sub hl [1, 2, 3, 4, 5, 6] rfl) hP hS
        · have h := h.2 hc18
          refine lv_aload hx hb d_TC_sendMessages_33 (lv_at hl 0 rfl) ?_
          refine gfC_TC_64 C hP h_j4 d_TC_sendMessages_35 ?_
          refine x_gi (x_V C hP hS (xlt h_j4 rfl) ((eC_Me h_j4) _ _) rfl (c_Me_isThere l D κ hΘ sz j4 h_j4 I J _ h) q_Me_isThere k_458 k_459 k_457 rfl rfl ⟨Nat.le_of_ble_eq_true rfl, Nat.le_of_ble_eq_true rfl⟩ rfl hl.1 rfl (Nat.le_of_ble_eq_true rfl) d_TC_sendMessages_38) hS (fun r8 I6 J7 h H locs hP hS => ?_)
          refine lv_if_eq hx hb d_TC_sendMessages_41 (tgt := 66) rfl (fun hc17 => ?_) (fun hc17 => ?_)
          · have h := h.1 hc17
            exact tJ66 _ ih _ _ _ _ _ h _ _ _ (lv_sub hl [1, 2, 3, 4, 5, 6] rfl) hP hS
          · have h := h.2 hc17
            refine lv_aload hx hb d_TC_sendMessages_44 (lv_at hl 0 rfl) ?_
            refine gfC_TC_64 C hP h_j4 d_TC_sendMessages_46 ?_
            refine x_gi (x_V C hP hS (xlt h_j4 rfl) ((eC_Me h_j4) _ _) rfl (c_Me_comesUp l D κ hΘ sz j4 h_j4 I6 J7 _ h) q_Me_comesUp k_571 k_572 k_570 rfl rfl ⟨Nat.le_of_ble_eq_true rfl, Nat.le_of_ble_eq_true rfl⟩ rfl hl.1 rfl (Nat.le_of_ble_eq_true rfl) d_TC_sendMessages_49) hS (fun r11 I9 J10 h H locs hP hS => ?_)
            refine lv_if_eq hx hb d_TC_sendMessages_52 (tgt := 66) rfl (fun hc16 => ?_) (fun hc16 => ?_)
            · have h := h.1 hc16
              exact tJ66 _ ih _ _ _ _ _ h _ _ _ (lv_sub hl [1, 2, 3, 4, 5, 6] rfl) hP hS
            · have h := h.2 hc16
              obtain ⟨x12, ex12⟩ : ∃ y : Int32, y = v3 + (1 : Int32) := ⟨_, rfl⟩
              have h := h x12 ex12
              refine lv_iinc (k := 4) (v := x12) hx hb d_TC_sendMessages_55 hl rfl (by rw [ex12]; rfl) (Nat.le_of_ble_eq_true rfl) (lv' := [(3, .int x12), (6, .ref (Θ (14 + j4))), (0, .ref (Θ (0))), (1, .int p1), (2, .int p2), (4, .int v4), (5, .int v5)]) rfl (fun ls hl => ?_)
              refine lv_aload hx hb d_TC_sendMessages_58 (lv_at hl 1 rfl) ?_
              refine lv_iload_n hx hb d_TC_sendMessages_60 rfl (lv_at hl 4 rfl) ?_
              refine x_gi (x_V C hP hS (xlt h_j4 rfl) ((eC_Mo h_j4) _ _) rfl (c_Mo_messageBlock l D κ hΘ sz j4 h_j4 p2 I9 J10 _ h) q_Mo_messageBlock k_575 k_576 k_574 rfl rfl ⟨Nat.le_of_ble_eq_true rfl, Nat.le_of_ble_eq_true rfl⟩ rfl hl.1 rfl (Nat.le_of_ble_eq_true rfl) d_TC_sendMessages_61) hS (fun r15 I13 J14 h H locs hP hS => ?_)
              refine lv_istore hx hb d_TC_sendMessages_64 hl (Nat.le_of_ble_eq_true rfl) (lv' := [(4, .int r15), (3, .int x12), (6, .ref (Θ (14 + j4))), (0, .ref (Θ (0))), (1, .int p1), (2, .int p2), (5, .int v5)]) rfl (fun ls hl => ?_)
              exact tJ66 _ ih _ _ _ _ _ h _ _ _ (lv_sub hl [3, 4, 5, 1, 0, 6] rfl) hP hS
  have hE := lg_entry_eq m [.ref (Θ (0)), .int p1, .int p2] 7
  rw [← hargs] at hE
  rw [hE]
  have hl := lv_entry [.ref (Θ (0)), .int p1, .int p2] (n := 7) (Nat.le_of_ble_eq_true rfl)
  generalize (lg_sl [.ref (Θ (0)), .int p1, .int p2] ++ List.replicate (7 - (lg_sl [.ref (Θ (0)), .int p1, .int p2]).length) Slot.unset).toArray = ls at hl ⊢
  have hl : lv_has ls 7 [(0, .ref (Θ (0))), (1, .int p1), (2, .int p2)] := hl
  unfold p_TC_sendMessages at h
  refine lv_iconst (v := (0 : Int32)) hx hb d_TC_sendMessages_0 (by decide) ?_
  refine lv_topi (fun x1 ex1 => ?_)
  have h := h x1 ex1
  refine lv_istore_n hx hb d_TC_sendMessages_1 rfl hl (Nat.le_of_ble_eq_true rfl) (lv' := [(3, .int x1), (0, .ref (Θ (0))), (1, .int p1), (2, .int p2)]) rfl (fun ls hl => ?_)
  refine lv_iconst (v := (-1 : Int32)) hx hb d_TC_sendMessages_2 (by decide) ?_
  refine lv_topi (fun x2 ex2 => ?_)
  have h := h x2 ex2
  refine lv_istore hx hb d_TC_sendMessages_3 hl (Nat.le_of_ble_eq_true rfl) (lv' := [(4, .int x2), (3, .int x1), (0, .ref (Θ (0))), (1, .int p1), (2, .int p2)]) rfl (fun ls hl => ?_)
  refine lv_iconst (v := (0 : Int32)) hx hb d_TC_sendMessages_5 (by decide) ?_
  refine lv_topi (fun x3 ex3 => ?_)
  have h := h x3 ex3
  refine lv_istore hx hb d_TC_sendMessages_6 hl (Nat.le_of_ble_eq_true rfl) (lv' := [(5, .int x3), (4, .int x2), (3, .int x1), (0, .ref (Θ (0))), (1, .int p1), (2, .int p2)]) rfl (fun ls hl => ?_)
  obtain ⟨n25, h⟩ := h
  refine tL8 _ ?_ n25 _ _ _ _ _ h _ _ _ (lv_sub hl [3, 4, 5, 2, 1, 0] rfl) hP hS
  · intro z20 z21 I22 J23 h H locs ls hl hP hS
    refine lv_iload_n hx hb d_TC_sendMessages_72 rfl (lv_at hl 0 rfl) ?_
    refine lv_iconst (v := (1 : Int32)) hx hb d_TC_sendMessages_73 (by decide) ?_
    refine lv_icmp_ne hx hb d_TC_sendMessages_74 (tgt := 82) rfl (fun hc24 => ?_) (fun hc24 => ?_)
    · have h := h.1 hc24
      refine lv_iconst (v := (-1 : Int32)) hx hb d_TC_sendMessages_82 (by decide) ?_
      exact x_iret hx hb hr hlocks hP hS h d_TC_sendMessages_83
    · have h := h.2 hc24
      refine lv_iload hx hb d_TC_sendMessages_77 (lv_at hl 1 rfl) ?_
      refine lv_goto hx hb d_TC_sendMessages_79 (tgt := 83) rfl ?_
      exact x_iret hx hb hr hlocks hP hS h d_TC_sendMessages_83
set_option maxHeartbeats 4000000 in
set_option maxRecDepth 100000 in
theorem c_TC_tellMobiles (l : Launch) (D : va_G) (κ : Nat → ClassId) {Θ : Nat → Nat} (hΘ : xJ 52 Θ) (sz : Nat) (p1 : Int32) (p2 : Int32) (I : SI) (J : SJ) (post : SI → SJ → Prop) (h : p_TC_tellMobiles p1 p2 post I J) : Met l y_TC_tellMobiles WS rm_TC_tellMobiles (va_Pc [.ref (Θ (0)), .int p1, .int p2] (xPR D clA (tysA κ) 52 Θ (eC Θ κ) sz I J)) (xQv D clA 52 Θ (eC Θ κ) sz post) 0 0 (xA 52 Θ sz) := by
  refine xMet (cc := b_TC_tellMobiles) (maxL := 5) (ret := none) (by decide) q_TC_tellMobiles.1 ?_
  intro p e s m args below meth c s₁ B hml hv
  obtain ⟨hargs, hsz, hP, hK, hN, hG⟩ := hv
  have hx := B.exec
  have hb := B.bytes
  have hr := B.returns
  have hlocks := B.notSynchronized
  have hts := atoms_spec (ws := WS) B.pre
  have hown : s.vm.findClass R_TC = some m.cls := findClass_of_methodNamed B.named
  have C : xC p m c b_TC_tellMobiles 5 s args R_TC D clA (tysA κ) 52 Θ sz := ⟨⟨hx, hb, hml, hown, hts⟩, hK, hN, hG, hsz⟩
  have hS : va_S (xA 52 Θ sz) s.heap s.heap [] := va_S.rf
  have tJ65 : ∀ (k2 : Int32 → SI → SJ → Prop), (∀ (v3 : Int32) (I : SI) (J : SJ), k2 v3 I J → ∀ (H : Heap) (locs : List Loc) (ls : Array Slot), lv_has ls 5 [(0, .ref (Θ (0))), (1, .int p1), (2, .int p2), (3, .int v3)] → va_P D clA (xw 52 Θ (eC Θ κ) I J) H → va_S (xA 52 Θ sz) s.heap H locs → W p l e (headSpec WS rm_TC_tellMobiles).room s m args below meth c H locs 0 0 (MQ below (xQv D clA 52 Θ (eC Θ κ) sz post) args s 0 0 (xA 52 Θ sz)) (F0 m 2 ls [])) → ∀ (v3 : Int32) (I : SI) (J : SJ), p_TC_tellMobiles_65 p1 p2 post k2 v3 I J → ∀ (H : Heap) (locs : List Loc) (ls : Array Slot), lv_has ls 5 [(0, .ref (Θ (0))), (1, .int p1), (2, .int p2), (3, .int v3)] → va_P D clA (xw 52 Θ (eC Θ κ) I J) H → va_S (xA 52 Θ sz) s.heap H locs → W p l e (headSpec WS rm_TC_tellMobiles).room s m args below meth c H locs 0 0 (MQ below (xQv D clA 52 Θ (eC Θ κ) sz post) args s 0 0 (xA 52 Θ sz)) (F0 m 65 ls []) := by
    intro k2 hk2 v3 I J h H locs ls hl hP hS
    unfold p_TC_tellMobiles_65 at h
    obtain ⟨x3, ex3⟩ : ∃ y : Int32, y = v3 + (1 : Int32) := ⟨_, rfl⟩
    have h := h x3 ex3
    refine lv_iinc (k := 3) (v := x3) hx hb d_TC_tellMobiles_65 hl rfl (by rw [ex3]; rfl) (Nat.le_of_ble_eq_true rfl) (lv' := [(3, .int x3), (0, .ref (Θ (0))), (1, .int p1), (2, .int p2)]) rfl (fun ls hl => ?_)
    refine lv_goto hx hb d_TC_tellMobiles_68 (tgt := 2) rfl ?_
    exact hk2 _ _ _ h _ _ _ (lv_sub hl [1, 2, 3, 0] rfl) hP hS
  have tL2 : ∀ (n : Nat) (v3 : Int32) (I : SI) (J : SJ), p_TC_tellMobiles_L2 p1 p2 post n v3 I J → ∀ (H : Heap) (locs : List Loc) (ls : Array Slot), lv_has ls 5 [(0, .ref (Θ (0))), (1, .int p1), (2, .int p2), (3, .int v3)] → va_P D clA (xw 52 Θ (eC Θ κ) I J) H → va_S (xA 52 Θ sz) s.heap H locs → W p l e (headSpec WS rm_TC_tellMobiles).room s m args below meth c H locs 0 0 (MQ below (xQv D clA 52 Θ (eC Θ κ) sz post) args s 0 0 (xA 52 Θ sz)) (F0 m 2 ls []) := by
    intro n
    induction n with
    | zero =>
      intro v3 I J h H locs ls hl hP hS
      exact h.elim
    | succ n ih =>
      intro v3 I J h H locs ls hl hP hS
      unfold p_TC_tellMobiles_L2 at h
      refine lv_iload_n hx hb d_TC_tellMobiles_2 rfl (lv_at hl 3 rfl) ?_
      refine lv_bipush (v := (8 : Int32)) hx hb d_TC_tellMobiles_3 (by decide) ?_
      refine lv_icmp_ge hx hb d_TC_tellMobiles_5 (tgt := 71) rfl (fun hc21 => ?_) (fun hc21 => ?_)
      · have h := h.1 hc21
        exact x_vret hx hb hr hlocks hP hS h d_TC_tellMobiles_71
      · have h := h.2 hc21
        refine lv_aload_n hx hb d_TC_tellMobiles_8 rfl (lv_at hl 0 rfl) ?_
        refine gfC_TC_25 C hP d_TC_tellMobiles_9 ?_
        refine lv_iload_n hx hb d_TC_tellMobiles_12 rfl (lv_at hl 3 rfl) ?_
        obtain ⟨j2, ej2, h_j2, h⟩ := h
        refine x_aald hx hb hK hP (12) 3 (Nat.le_of_ble_eq_true rfl) eC_mobiles rfl ej2 h_j2 (by decide) d_TC_tellMobiles_13 ?_
        refine gfC_TC_61 C hP h_j2 d_TC_tellMobiles_14 ?_
        refine lv_iload_n hx hb d_TC_tellMobiles_17 rfl (lv_at hl 1 rfl) ?_
        refine lv_icmp_ne hx hb d_TC_tellMobiles_18 (tgt := 65) rfl (fun hc20 => ?_) (fun hc20 => ?_)
        · have h := h.1 hc20
          exact tJ65 _ ih _ _ _ h _ _ _ (lv_sub hl [0, 1, 2, 3] rfl) hP hS
        · have h := h.2 hc20
          refine lv_aload_n hx hb d_TC_tellMobiles_21 rfl (lv_at hl 0 rfl) ?_
          refine lv_iconst (v := (3 : Int32)) hx hb d_TC_tellMobiles_22 (by decide) ?_
          refine lv_iload_n hx hb d_TC_tellMobiles_23 rfl (lv_at hl 3 rfl) ?_
          refine lv_iadd hx hb d_TC_tellMobiles_24 ?_
          refine lv_iload_n hx hb d_TC_tellMobiles_25 rfl (lv_at hl 2 rfl) ?_
          refine lv_iload_n hx hb d_TC_tellMobiles_26 rfl (lv_at hl 1 rfl) ?_
          refine x_gi (x_S C hP hS (c_TC_colourOf l D κ hΘ sz p1 I J _ h) q_TC_colourOf k_584 k_583 rfl rfl ⟨Nat.le_of_ble_eq_true rfl, Nat.le_of_ble_eq_true rfl⟩ rfl hl.1 rfl (Nat.le_of_ble_eq_true rfl) d_TC_tellMobiles_27) hS (fun r6 I4 J5 h H locs hP hS => ?_)
          refine x_gi (x_V C hP hS (Nat.le_of_ble_eq_true rfl) (eC_TC _ _) rfl (c_TC_receive l D κ hΘ sz ((3 : Int32) + v3) p2 r6 I4 J5 _ h) q_TC_receive k_588 sel_TC_receive k_586 rfl rfl ⟨Nat.le_of_ble_eq_true rfl, Nat.le_of_ble_eq_true rfl⟩ rfl hl.1 rfl (Nat.le_of_ble_eq_true rfl) d_TC_tellMobiles_30) hS (fun r9 I7 J8 h H locs hP hS => ?_)
          refine lv_istore hx hb d_TC_tellMobiles_33 hl (Nat.le_of_ble_eq_true rfl) (lv' := [(4, .int r9), (0, .ref (Θ (0))), (1, .int p1), (2, .int p2), (3, .int v3)]) rfl (fun ls hl => ?_)
          refine lv_iload hx hb d_TC_tellMobiles_35 (lv_at hl 0 rfl) ?_
          refine lv_iconst (v := (-1 : Int32)) hx hb d_TC_tellMobiles_37 (by decide) ?_
          refine lv_icmp_eq hx hb d_TC_tellMobiles_38 (tgt := 65) rfl (fun hc19 => ?_) (fun hc19 => ?_)
          · have h := h.1 hc19
            exact tJ65 _ ih _ _ _ h _ _ _ (lv_sub hl [1, 2, 3, 4] rfl) hP hS
          · have h := h.2 hc19
            refine lv_aload_n hx hb d_TC_tellMobiles_41 rfl (lv_at hl 1 rfl) ?_
            refine gfC_TC_25 C hP d_TC_tellMobiles_42 ?_
            refine lv_iload_n hx hb d_TC_tellMobiles_45 rfl (lv_at hl 4 rfl) ?_
            obtain ⟨j10, ej10, h_j10, h⟩ := h
            refine x_aald hx hb hK hP (12) 3 (Nat.le_of_ble_eq_true rfl) eC_mobiles rfl ej10 h_j10 (by decide) d_TC_tellMobiles_46 ?_
            refine lv_iload hx hb d_TC_tellMobiles_47 (lv_at hl 0 rfl) ?_
            refine lv_aload_n hx hb d_TC_tellMobiles_49 rfl (lv_at hl 1 rfl) ?_
            refine gfC_TC_19 C hP d_TC_tellMobiles_50 ?_
            refine lv_iload_n hx hb d_TC_tellMobiles_53 rfl (lv_at hl 4 rfl) ?_
            refine lv_iload hx hb d_TC_tellMobiles_54 (lv_at hl 0 rfl) ?_
            refine x_gi (x_S C hP hS (c_Bk_groupOf l D κ hΘ sz r9 I7 J8 _ h) q_Bk_groupOf k_618 k_689 rfl rfl ⟨Nat.le_of_ble_eq_true rfl, Nat.le_of_ble_eq_true rfl⟩ rfl hl.1 rfl (Nat.le_of_ble_eq_true rfl) d_TC_tellMobiles_56) hS (fun r13 I11 J12 h H locs hP hS => ?_)
            refine x_gi (x_V C hP hS (Nat.le_of_ble_eq_true rfl) (eC_Sw _ _) rfl (c_Sw_isMember l D κ hΘ sz v3 r13 I11 J12 _ h) q_Sw_isMember k_628 k_629 k_690 rfl rfl ⟨Nat.le_of_ble_eq_true rfl, Nat.le_of_ble_eq_true rfl⟩ rfl hl.1 rfl (Nat.le_of_ble_eq_true rfl) d_TC_tellMobiles_59) hS (fun r16 I14 J15 h H locs hP hS => ?_)
            refine x_gv (x_V C hP hS (xlt h_j10 rfl) ((eC_Mo h_j10) _ _) rfl (c_Mo_obey l D κ hΘ sz j10 h_j10 r9 r16 I14 J15 _ h) q_Mo_obey k_692 k_693 k_691 rfl rfl ⟨Nat.le_of_ble_eq_true rfl, Nat.le_of_ble_eq_true rfl⟩ rfl hl.1 rfl (Nat.le_of_ble_eq_true rfl) d_TC_tellMobiles_62) hS (fun I17 J18 h H locs hP hS => ?_)
            exact tJ65 _ ih _ _ _ h _ _ _ (lv_sub hl [1, 2, 3, 4] rfl) hP hS
  have hE := lg_entry_eq m [.ref (Θ (0)), .int p1, .int p2] 5
  rw [← hargs] at hE
  rw [hE]
  have hl := lv_entry [.ref (Θ (0)), .int p1, .int p2] (n := 5) (Nat.le_of_ble_eq_true rfl)
  generalize (lg_sl [.ref (Θ (0)), .int p1, .int p2] ++ List.replicate (5 - (lg_sl [.ref (Θ (0)), .int p1, .int p2]).length) Slot.unset).toArray = ls at hl ⊢
  have hl : lv_has ls 5 [(0, .ref (Θ (0))), (1, .int p1), (2, .int p2)] := hl
  unfold p_TC_tellMobiles at h
  refine lv_iconst (v := (0 : Int32)) hx hb d_TC_tellMobiles_0 (by decide) ?_
  refine lv_topi (fun x1 ex1 => ?_)
  have h := h x1 ex1
  refine lv_istore_n hx hb d_TC_tellMobiles_1 rfl hl (Nat.le_of_ble_eq_true rfl) (lv' := [(3, .int x1), (0, .ref (Θ (0))), (1, .int p1), (2, .int p2)]) rfl (fun ls hl => ?_)
  obtain ⟨n22, h⟩ := h
  refine tL2 n22 _ _ _ h _ _ _ (lv_sub hl [1, 2, 3, 0] rfl) hP hS
set_option maxHeartbeats 4000000 in
set_option maxRecDepth 100000 in
theorem c_TC_settleMessages (l : Launch) (D : va_G) (κ : Nat → ClassId) {Θ : Nat → Nat} (hΘ : xJ 52 Θ) (sz : Nat) (p1 : Int32) (I : SI) (J : SJ) (post : SI → SJ → Prop) (h : p_TC_settleMessages p1 post I J) : Met l y_TC_settleMessages WS rm_TC_settleMessages (va_Pc [.ref (Θ (0)), .int p1] (xPR D clA (tysA κ) 52 Θ (eC Θ κ) sz I J)) (xQv D clA 52 Θ (eC Θ κ) sz post) 0 0 (xA 52 Θ sz) := by
  refine xMet (cc := b_TC_settleMessages) (maxL := 3) (ret := none) (by decide) q_TC_settleMessages.1 ?_
  intro p e s m args below meth c s₁ B hml hv
  obtain ⟨hargs, hsz, hP, hK, hN, hG⟩ := hv
  have hx := B.exec
  have hb := B.bytes
  have hr := B.returns
  have hlocks := B.notSynchronized
  have hts := atoms_spec (ws := WS) B.pre
  have hown : s.vm.findClass R_TC = some m.cls := findClass_of_methodNamed B.named
  have C : xC p m c b_TC_settleMessages 3 s args R_TC D clA (tysA κ) 52 Θ sz := ⟨⟨hx, hb, hml, hown, hts⟩, hK, hN, hG, hsz⟩
  have hS : va_S (xA 52 Θ sz) s.heap s.heap [] := va_S.rf
  have tJ30 : ∀ (k2 : Int32 → SI → SJ → Prop), (∀ (v2 : Int32) (I : SI) (J : SJ), k2 v2 I J → ∀ (H : Heap) (locs : List Loc) (ls : Array Slot), lv_has ls 3 [(0, .ref (Θ (0))), (1, .int p1), (2, .int v2)] → va_P D clA (xw 52 Θ (eC Θ κ) I J) H → va_S (xA 52 Θ sz) s.heap H locs → W p l e (headSpec WS rm_TC_settleMessages).room s m args below meth c H locs 0 0 (MQ below (xQv D clA 52 Θ (eC Θ κ) sz post) args s 0 0 (xA 52 Θ sz)) (F0 m 2 ls [])) → ∀ (v2 : Int32) (I : SI) (J : SJ), p_TC_settleMessages_30 p1 post k2 v2 I J → ∀ (H : Heap) (locs : List Loc) (ls : Array Slot), lv_has ls 3 [(0, .ref (Θ (0))), (1, .int p1), (2, .int v2)] → va_P D clA (xw 52 Θ (eC Θ κ) I J) H → va_S (xA 52 Θ sz) s.heap H locs → W p l e (headSpec WS rm_TC_settleMessages).room s m args below meth c H locs 0 0 (MQ below (xQv D clA 52 Θ (eC Θ κ) sz post) args s 0 0 (xA 52 Θ sz)) (F0 m 30 ls []) := by
    intro k2 hk2 v2 I J h H locs ls hl hP hS
    unfold p_TC_settleMessages_30 at h
    obtain ⟨x3, ex3⟩ : ∃ y : Int32, y = v2 + (1 : Int32) := ⟨_, rfl⟩
    have h := h x3 ex3
    refine lv_iinc (k := 2) (v := x3) hx hb d_TC_settleMessages_30 hl rfl (by rw [ex3]; rfl) (Nat.le_of_ble_eq_true rfl) (lv' := [(2, .int x3), (0, .ref (Θ (0))), (1, .int p1)]) rfl (fun ls hl => ?_)
    refine lv_goto hx hb d_TC_settleMessages_33 (tgt := 2) rfl ?_
    exact hk2 _ _ _ h _ _ _ (lv_sub hl [1, 2, 0] rfl) hP hS
  have tL2 : ∀ (n : Nat) (v2 : Int32) (I : SI) (J : SJ), p_TC_settleMessages_L2 p1 post n v2 I J → ∀ (H : Heap) (locs : List Loc) (ls : Array Slot), lv_has ls 3 [(0, .ref (Θ (0))), (1, .int p1), (2, .int v2)] → va_P D clA (xw 52 Θ (eC Θ κ) I J) H → va_S (xA 52 Θ sz) s.heap H locs → W p l e (headSpec WS rm_TC_settleMessages).room s m args below meth c H locs 0 0 (MQ below (xQv D clA 52 Θ (eC Θ κ) sz post) args s 0 0 (xA 52 Θ sz)) (F0 m 2 ls []) := by
    intro n
    induction n with
    | zero =>
      intro v2 I J h H locs ls hl hP hS
      exact h.elim
    | succ n ih =>
      intro v2 I J h H locs ls hl hP hS
      unfold p_TC_settleMessages_L2 at h
      refine lv_iload_n hx hb d_TC_settleMessages_2 rfl (lv_at hl 2 rfl) ?_
      refine lv_bipush (v := (8 : Int32)) hx hb d_TC_settleMessages_3 (by decide) ?_
      refine lv_icmp_ge hx hb d_TC_settleMessages_5 (tgt := 36) rfl (fun hc8 => ?_) (fun hc8 => ?_)
      · have h := h.1 hc8
        exact x_vret hx hb hr hlocks hP hS h d_TC_settleMessages_36
      · have h := h.2 hc8
        refine lv_aload_n hx hb d_TC_settleMessages_8 rfl (lv_at hl 0 rfl) ?_
        refine gfC_TC_25 C hP d_TC_settleMessages_9 ?_
        refine lv_iload_n hx hb d_TC_settleMessages_12 rfl (lv_at hl 2 rfl) ?_
        obtain ⟨j2, ej2, h_j2, h⟩ := h
        refine x_aald hx hb hK hP (12) 3 (Nat.le_of_ble_eq_true rfl) eC_mobiles rfl ej2 h_j2 (by decide) d_TC_settleMessages_13 ?_
        refine gfC_TC_61 C hP h_j2 d_TC_settleMessages_14 ?_
        refine lv_iload_n hx hb d_TC_settleMessages_17 rfl (lv_at hl 1 rfl) ?_
        refine lv_icmp_ne hx hb d_TC_settleMessages_18 (tgt := 30) rfl (fun hc7 => ?_) (fun hc7 => ?_)
        · have h := h.1 hc7
          exact tJ30 _ ih _ _ _ h _ _ _ (lv_sub hl [0, 1, 2] rfl) hP hS
        · have h := h.2 hc7
          refine lv_aload_n hx hb d_TC_settleMessages_21 rfl (lv_at hl 0 rfl) ?_
          refine gfC_TC_25 C hP d_TC_settleMessages_22 ?_
          refine lv_iload_n hx hb d_TC_settleMessages_25 rfl (lv_at hl 2 rfl) ?_
          obtain ⟨j4, ej4, h_j4, h⟩ := h
          refine x_aald hx hb hK hP (12) 3 (Nat.le_of_ble_eq_true rfl) eC_mobiles rfl ej4 h_j4 (by decide) d_TC_settleMessages_26 ?_
          refine x_gv (x_V C hP hS (xlt h_j4 rfl) ((eC_Mo h_j4) _ _) rfl (c_Mo_settleMessage l D κ hΘ sz j4 h_j4 I J _ h) q_Mo_settleMessage k_712 k_713 k_711 rfl rfl ⟨Nat.le_of_ble_eq_true rfl, Nat.le_of_ble_eq_true rfl⟩ rfl hl.1 rfl (Nat.le_of_ble_eq_true rfl) d_TC_settleMessages_27) hS (fun I5 J6 h H locs hP hS => ?_)
          exact tJ30 _ ih _ _ _ h _ _ _ (lv_sub hl [0, 1, 2] rfl) hP hS
  have hE := lg_entry_eq m [.ref (Θ (0)), .int p1] 3
  rw [← hargs] at hE
  rw [hE]
  have hl := lv_entry [.ref (Θ (0)), .int p1] (n := 3) (Nat.le_of_ble_eq_true rfl)
  generalize (lg_sl [.ref (Θ (0)), .int p1] ++ List.replicate (3 - (lg_sl [.ref (Θ (0)), .int p1]).length) Slot.unset).toArray = ls at hl ⊢
  have hl : lv_has ls 3 [(0, .ref (Θ (0))), (1, .int p1)] := hl
  unfold p_TC_settleMessages at h
  refine lv_iconst (v := (0 : Int32)) hx hb d_TC_settleMessages_0 (by decide) ?_
  refine lv_topi (fun x1 ex1 => ?_)
  have h := h x1 ex1
  refine lv_istore_n hx hb d_TC_settleMessages_1 rfl hl (Nat.le_of_ble_eq_true rfl) (lv' := [(2, .int x1), (0, .ref (Θ (0))), (1, .int p1)]) rfl (fun ls hl => ?_)
  obtain ⟨n9, h⟩ := h
  refine tL2 n9 _ _ _ h _ _ _ (lv_sub hl [1, 2, 0] rfl) hP hS
set_option maxHeartbeats 4000000 in
set_option maxRecDepth 100000 in
theorem c_TC_runControl (l : Launch) (D : va_G) (κ : Nat → ClassId) {Θ : Nat → Nat} (hΘ : xJ 52 Θ) (sz : Nat) (p1 : Int32) (I : SI) (J : SJ) (post : SI → SJ → Prop) (h : p_TC_runControl p1 post I J) : Met l y_TC_runControl WS rm_TC_runControl (va_Pc [.ref (Θ (0)), .int p1] (xPR D clA (tysA κ) 52 Θ (eC Θ κ) sz I J)) (xQv D clA 52 Θ (eC Θ κ) sz post) 0 0 (xA 52 Θ sz) := by
  refine xMet (cc := b_TC_runControl) (maxL := 6) (ret := none) (by decide) q_TC_runControl.1 ?_
  intro p e s m args below meth c s₁ B hml hv
  obtain ⟨hargs, hsz, hP, hK, hN, hG⟩ := hv
  have hx := B.exec
  have hb := B.bytes
  have hr := B.returns
  have hlocks := B.notSynchronized
  have hts := atoms_spec (ws := WS) B.pre
  have hown : s.vm.findClass R_TC = some m.cls := findClass_of_methodNamed B.named
  have C : xC p m c b_TC_runControl 6 s args R_TC D clA (tysA κ) 52 Θ sz := ⟨⟨hx, hb, hml, hown, hts⟩, hK, hN, hG, hsz⟩
  have hS : va_S (xA 52 Θ sz) s.heap s.heap [] := va_S.rf
  have tJ112 : ∀ (k2 : Int32 → SI → SJ → Prop), (∀ (v2 : Int32) (I : SI) (J : SJ), k2 v2 I J → ∀ (H : Heap) (locs : List Loc) (ls : Array Slot), lv_has ls 6 [(0, .ref (Θ (0))), (1, .int p1), (2, .int v2)] → va_P D clA (xw 52 Θ (eC Θ κ) I J) H → va_S (xA 52 Θ sz) s.heap H locs → W p l e (headSpec WS rm_TC_runControl).room s m args below meth c H locs 0 0 (MQ below (xQv D clA 52 Θ (eC Θ κ) sz post) args s 0 0 (xA 52 Θ sz)) (F0 m 2 ls [])) → ∀ (v2 : Int32) (I : SI) (J : SJ), p_TC_runControl_112 p1 post k2 v2 I J → ∀ (H : Heap) (locs : List Loc) (ls : Array Slot), lv_has ls 6 [(0, .ref (Θ (0))), (1, .int p1), (2, .int v2)] → va_P D clA (xw 52 Θ (eC Θ κ) I J) H → va_S (xA 52 Θ sz) s.heap H locs → W p l e (headSpec WS rm_TC_runControl).room s m args below meth c H locs 0 0 (MQ below (xQv D clA 52 Θ (eC Θ κ) sz post) args s 0 0 (xA 52 Θ sz)) (F0 m 112 ls []) := by
    intro k2 hk2 v2 I J h H locs ls hl hP hS
    unfold p_TC_runControl_112 at h
    refine lv_aload_n hx hb d_TC_runControl_112 rfl (lv_at hl 0 rfl) ?_
    refine lv_iload_n hx hb d_TC_runControl_113 rfl (lv_at hl 2 rfl) ?_
    refine x_gv (x_V C hP hS (Nat.le_of_ble_eq_true rfl) (eC_TC _ _) rfl (c_TC_settleMessages l D κ hΘ sz v2 I J _ h) q_TC_settleMessages k_709 sel_TC_settleMessages k_707 rfl rfl ⟨Nat.le_of_ble_eq_true rfl, Nat.le_of_ble_eq_true rfl⟩ rfl hl.1 rfl (Nat.le_of_ble_eq_true rfl) d_TC_runControl_114) hS (fun I15 J16 h H locs hP hS => ?_)
    obtain ⟨x17, ex17⟩ : ∃ y : Int32, y = v2 + (1 : Int32) := ⟨_, rfl⟩
    have h := h x17 ex17
    refine lv_iinc (k := 2) (v := x17) hx hb d_TC_runControl_117 hl rfl (by rw [ex17]; rfl) (Nat.le_of_ble_eq_true rfl) (lv' := [(2, .int x17), (0, .ref (Θ (0))), (1, .int p1)]) rfl (fun ls hl => ?_)
    refine lv_goto hx hb d_TC_runControl_120 (tgt := 2) rfl ?_
    exact hk2 _ _ _ h _ _ _ (lv_sub hl [1, 2, 0] rfl) hP hS
  have tJ85 : ∀ (k2 : Int32 → SI → SJ → Prop), (∀ (v2 : Int32) (I : SI) (J : SJ), k2 v2 I J → ∀ (H : Heap) (locs : List Loc) (ls : Array Slot), lv_has ls 6 [(0, .ref (Θ (0))), (1, .int p1), (2, .int v2)] → va_P D clA (xw 52 Θ (eC Θ κ) I J) H → va_S (xA 52 Θ sz) s.heap H locs → W p l e (headSpec WS rm_TC_runControl).room s m args below meth c H locs 0 0 (MQ below (xQv D clA 52 Θ (eC Θ κ) sz post) args s 0 0 (xA 52 Θ sz)) (F0 m 2 ls [])) → ∀ (v2 : Int32) (I : SI) (J : SJ), p_TC_runControl_85 p1 post k2 v2 I J → ∀ (H : Heap) (locs : List Loc) (ls : Array Slot), lv_has ls 6 [(0, .ref (Θ (0))), (1, .int p1), (2, .int v2)] → va_P D clA (xw 52 Θ (eC Θ κ) I J) H → va_S (xA 52 Θ sz) s.heap H locs → W p l e (headSpec WS rm_TC_runControl).room s m args below meth c H locs 0 0 (MQ below (xQv D clA 52 Θ (eC Θ κ) sz post) args s 0 0 (xA 52 Θ sz)) (F0 m 85 ls []) := by
    intro k2 hk2 v2 I J h H locs ls hl hP hS
    unfold p_TC_runControl_85 at h
    refine lv_aload_n hx hb d_TC_runControl_85 rfl (lv_at hl 0 rfl) ?_
    refine gfC_TC_19 C hP d_TC_runControl_86 ?_
    refine gfC_TC_151 C hP d_TC_runControl_89 ?_
    refine lv_iload_n hx hb d_TC_runControl_92 rfl (lv_at hl 2 rfl) ?_
    obtain ⟨j11, ej11, h_j11, h⟩ := h
    refine x_aald hx hb hK hP (11) 5 (Nat.le_of_ble_eq_true rfl) eC_cells rfl ej11 h_j11 (by decide) d_TC_runControl_93 ?_
    refine x_gi (x_V C hP hS (xlt h_j11 rfl) ((eC_Ce h_j11) _ _) rfl (c_Ce_nextToSay l D κ hΘ sz j11 h_j11 I J _ h) q_Ce_nextToSay k_682 k_683 k_681 rfl rfl ⟨Nat.le_of_ble_eq_true rfl, Nat.le_of_ble_eq_true rfl⟩ rfl hl.1 rfl (Nat.le_of_ble_eq_true rfl) d_TC_runControl_94) hS (fun r14 I12 J13 h H locs hP hS => ?_)
    refine lv_istore hx hb d_TC_runControl_97 hl (Nat.le_of_ble_eq_true rfl) (lv' := [(5, .int r14), (0, .ref (Θ (0))), (1, .int p1), (2, .int v2)]) rfl (fun ls hl => ?_)
    refine lv_iload hx hb d_TC_runControl_99 (lv_at hl 0 rfl) ?_
    refine lv_iconst (v := (-1 : Int32)) hx hb d_TC_runControl_101 (by decide) ?_
    refine lv_icmp_eq hx hb d_TC_runControl_102 (tgt := 112) rfl (fun hc20 => ?_) (fun hc20 => ?_)
    · have h := h.1 hc20
      exact tJ112 _ hk2 _ _ _ h _ _ _ (lv_sub hl [1, 2, 3] rfl) hP hS
    · have h := h.2 hc20
      refine lv_aload_n hx hb d_TC_runControl_105 rfl (lv_at hl 1 rfl) ?_
      refine lv_iload_n hx hb d_TC_runControl_106 rfl (lv_at hl 3 rfl) ?_
      refine lv_iload hx hb d_TC_runControl_107 (lv_at hl 0 rfl) ?_
      refine x_gv (x_V C hP hS (Nat.le_of_ble_eq_true rfl) (eC_TC _ _) rfl (c_TC_tellMobiles l D κ hΘ sz v2 r14 I12 J13 _ h) q_TC_tellMobiles k_687 sel_TC_tellMobiles k_685 rfl rfl ⟨Nat.le_of_ble_eq_true rfl, Nat.le_of_ble_eq_true rfl⟩ rfl hl.1 rfl (Nat.le_of_ble_eq_true rfl) d_TC_runControl_109) hS (fun I18 J19 h H locs hP hS => ?_)
      exact tJ112 _ hk2 _ _ _ h _ _ _ (lv_sub hl [1, 2, 3] rfl) hP hS
  have tJ33 : ∀ (k2 : Int32 → SI → SJ → Prop), (∀ (v2 : Int32) (I : SI) (J : SJ), k2 v2 I J → ∀ (H : Heap) (locs : List Loc) (ls : Array Slot), lv_has ls 6 [(0, .ref (Θ (0))), (1, .int p1), (2, .int v2)] → va_P D clA (xw 52 Θ (eC Θ κ) I J) H → va_S (xA 52 Θ sz) s.heap H locs → W p l e (headSpec WS rm_TC_runControl).room s m args below meth c H locs 0 0 (MQ below (xQv D clA 52 Θ (eC Θ κ) sz post) args s 0 0 (xA 52 Θ sz)) (F0 m 2 ls [])) → ∀ (v2 : Int32) (s0 : Int32) (I : SI) (J : SJ), p_TC_runControl_33 p1 post k2 v2 s0 I J → ∀ (H : Heap) (locs : List Loc) (ls : Array Slot), lv_has ls 6 [(0, .ref (Θ (0))), (1, .int p1), (2, .int v2)] → va_P D clA (xw 52 Θ (eC Θ κ) I J) H → va_S (xA 52 Θ sz) s.heap H locs → W p l e (headSpec WS rm_TC_runControl).room s m args below meth c H locs 0 0 (MQ below (xQv D clA 52 Θ (eC Θ κ) sz post) args s 0 0 (xA 52 Θ sz)) (F0 m 33 ls [.int s0]) := by
    intro k2 hk2 v2 s0 I J h H locs ls hl hP hS
    unfold p_TC_runControl_33 at h
    refine lv_istore hx hb d_TC_runControl_33 hl (Nat.le_of_ble_eq_true rfl) (lv' := [(4, .int s0), (0, .ref (Θ (0))), (1, .int p1), (2, .int v2)]) rfl (fun ls hl => ?_)
    refine lv_iload hx hb d_TC_runControl_35 (lv_at hl 0 rfl) ?_
    refine lv_iconst (v := (-1 : Int32)) hx hb d_TC_runControl_37 (by decide) ?_
    refine lv_icmp_eq hx hb d_TC_runControl_38 (tgt := 85) rfl (fun hc36 => ?_) (fun hc36 => ?_)
    · have h := h.1 hc36
      exact tJ85 _ hk2 _ _ _ h _ _ _ (lv_sub hl [1, 2, 3] rfl) hP hS
    · have h := h.2 hc36
      refine lv_iload hx hb d_TC_runControl_41 (lv_at hl 0 rfl) ?_
      refine x_gi (x_S C hP hS (c_Bk_isFromMobile l D κ hΘ sz s0 I J _ h) q_Bk_isFromMobile k_591 k_590 rfl rfl ⟨Nat.le_of_ble_eq_true rfl, Nat.le_of_ble_eq_true rfl⟩ rfl hl.1 rfl (Nat.le_of_ble_eq_true rfl) d_TC_runControl_43) hS (fun r23 I21 J22 h H locs hP hS => ?_)
      refine lv_if_eq hx hb d_TC_runControl_46 (tgt := 85) rfl (fun hc35 => ?_) (fun hc35 => ?_)
      · have h := h.1 hc35
        exact tJ85 _ hk2 _ _ _ h _ _ _ (lv_sub hl [1, 2, 3] rfl) hP hS
      · have h := h.2 hc35
        refine lv_aload_n hx hb d_TC_runControl_49 rfl (lv_at hl 1 rfl) ?_
        refine gfC_TC_19 C hP d_TC_runControl_50 ?_
        refine gfC_TC_151 C hP d_TC_runControl_53 ?_
        refine lv_iload_n hx hb d_TC_runControl_56 rfl (lv_at hl 3 rfl) ?_
        obtain ⟨j24, ej24, h_j24, h⟩ := h
        refine x_aald hx hb hK hP (11) 5 (Nat.le_of_ble_eq_true rfl) eC_cells rfl ej24 h_j24 (by decide) d_TC_runControl_57 ?_
        refine lv_bipush (v := (8 : Int32)) hx hb d_TC_runControl_58 (by decide) ?_
        refine lv_iload hx hb d_TC_runControl_60 (lv_at hl 0 rfl) ?_
        refine x_gi (x_S C hP hS (c_Bk_mobileOf l D κ hΘ sz s0 I21 J22 _ h) q_Bk_mobileOf k_595 k_594 rfl rfl ⟨Nat.le_of_ble_eq_true rfl, Nat.le_of_ble_eq_true rfl⟩ rfl hl.1 rfl (Nat.le_of_ble_eq_true rfl) d_TC_runControl_62) hS (fun r27 I25 J26 h H locs hP hS => ?_)
        refine lv_iconst (v := (0 : Int32)) hx hb d_TC_runControl_65 (by decide) ?_
        refine lv_iconst (v := (0 : Int32)) hx hb d_TC_runControl_66 (by decide) ?_
        refine lv_iconst (v := (0 : Int32)) hx hb d_TC_runControl_67 (by decide) ?_
        refine x_gi (x_S C hP hS (c_Bk_of l D κ hΘ sz (8 : Int32) r27 (0 : Int32) (0 : Int32) (0 : Int32) I25 J26 _ h) q_Bk_of k_478 k_477 rfl rfl ⟨Nat.le_of_ble_eq_true rfl, Nat.le_of_ble_eq_true rfl⟩ rfl hl.1 rfl (Nat.le_of_ble_eq_true rfl) d_TC_runControl_68) hS (fun r30 I28 J29 h H locs hP hS => ?_)
        refine x_gv (x_V C hP hS (xlt h_j24 rfl) ((eC_Ce h_j24) _ _) rfl (c_Ce_sayFirst l D κ hΘ sz j24 h_j24 r30 I28 J29 _ h) q_Ce_sayFirst k_598 k_599 k_597 rfl rfl ⟨Nat.le_of_ble_eq_true rfl, Nat.le_of_ble_eq_true rfl⟩ rfl hl.1 rfl (Nat.le_of_ble_eq_true rfl) d_TC_runControl_71) hS (fun I31 J32 h H locs hP hS => ?_)
        refine lv_aload_n hx hb d_TC_runControl_74 rfl (lv_at hl 1 rfl) ?_
        refine gfC_TC_19 C hP d_TC_runControl_75 ?_
        refine lv_iload hx hb d_TC_runControl_78 (lv_at hl 0 rfl) ?_
        refine lv_iload_n hx hb d_TC_runControl_80 rfl (lv_at hl 3 rfl) ?_
        refine lv_iload_n hx hb d_TC_runControl_81 rfl (lv_at hl 2 rfl) ?_
        refine x_gv (x_V C hP hS (Nat.le_of_ble_eq_true rfl) (eC_Sw _ _) rfl (c_Sw_accept l D κ hΘ sz s0 v2 p1 I31 J32 _ h) q_Sw_accept k_608 k_609 k_607 rfl rfl ⟨Nat.le_of_ble_eq_true rfl, Nat.le_of_ble_eq_true rfl⟩ rfl hl.1 rfl (Nat.le_of_ble_eq_true rfl) d_TC_runControl_82) hS (fun I33 J34 h H locs hP hS => ?_)
        exact tJ85 _ hk2 _ _ _ h _ _ _ (lv_sub hl [1, 2, 3] rfl) hP hS
  have tL2 : ∀ (n : Nat) (v2 : Int32) (I : SI) (J : SJ), p_TC_runControl_L2 p1 post n v2 I J → ∀ (H : Heap) (locs : List Loc) (ls : Array Slot), lv_has ls 6 [(0, .ref (Θ (0))), (1, .int p1), (2, .int v2)] → va_P D clA (xw 52 Θ (eC Θ κ) I J) H → va_S (xA 52 Θ sz) s.heap H locs → W p l e (headSpec WS rm_TC_runControl).room s m args below meth c H locs 0 0 (MQ below (xQv D clA 52 Θ (eC Θ κ) sz post) args s 0 0 (xA 52 Θ sz)) (F0 m 2 ls []) := by
    intro n
    induction n with
    | zero =>
      intro v2 I J h H locs ls hl hP hS
      exact h.elim
    | succ n ih =>
      intro v2 I J h H locs ls hl hP hS
      unfold p_TC_runControl_L2 at h
      refine lv_iload_n hx hb d_TC_runControl_2 rfl (lv_at hl 2 rfl) ?_
      refine lv_iconst (v := (3 : Int32)) hx hb d_TC_runControl_3 (by decide) ?_
      refine lv_icmp_ge hx hb d_TC_runControl_4 (tgt := 123) rfl (fun hc38 => ?_) (fun hc38 => ?_)
      · have h := h.1 hc38
        exact x_vret hx hb hr hlocks hP hS h d_TC_runControl_123
      · have h := h.2 hc38
        refine lv_aload_n hx hb d_TC_runControl_7 rfl (lv_at hl 0 rfl) ?_
        refine lv_iload_n hx hb d_TC_runControl_8 rfl (lv_at hl 2 rfl) ?_
        refine lv_iload_n hx hb d_TC_runControl_9 rfl (lv_at hl 1 rfl) ?_
        refine x_gi (x_V C hP hS (Nat.le_of_ble_eq_true rfl) (eC_TC _ _) rfl (c_TC_sendMessages l D κ hΘ sz v2 p1 I J _ h) q_TC_sendMessages k_568 sel_TC_sendMessages k_566 rfl rfl ⟨Nat.le_of_ble_eq_true rfl, Nat.le_of_ble_eq_true rfl⟩ rfl hl.1 rfl (Nat.le_of_ble_eq_true rfl) d_TC_runControl_10) hS (fun r4 I2 J3 h H locs hP hS => ?_)
        refine lv_istore_n hx hb d_TC_runControl_13 rfl hl (Nat.le_of_ble_eq_true rfl) (lv' := [(3, .int r4), (0, .ref (Θ (0))), (1, .int p1), (2, .int v2)]) rfl (fun ls hl => ?_)
        refine lv_iload_n hx hb d_TC_runControl_14 rfl (lv_at hl 0 rfl) ?_
        refine lv_iconst (v := (-1 : Int32)) hx hb d_TC_runControl_15 (by decide) ?_
        refine lv_icmp_ne hx hb d_TC_runControl_16 (tgt := 23) rfl (fun hc37 => ?_) (fun hc37 => ?_)
        · have h := h.1 hc37
          refine lv_aload_n hx hb d_TC_runControl_23 rfl (lv_at hl 1 rfl) ?_
          refine lv_iload_n hx hb d_TC_runControl_24 rfl (lv_at hl 3 rfl) ?_
          refine lv_iload_n hx hb d_TC_runControl_25 rfl (lv_at hl 0 rfl) ?_
          refine lv_iload_n hx hb d_TC_runControl_26 rfl (lv_at hl 3 rfl) ?_
          refine x_gi (x_S C hP hS (c_TC_colourOf l D κ hΘ sz v2 I2 J3 _ h) q_TC_colourOf k_584 k_583 rfl rfl ⟨Nat.le_of_ble_eq_true rfl, Nat.le_of_ble_eq_true rfl⟩ rfl hl.1 rfl (Nat.le_of_ble_eq_true rfl) d_TC_runControl_27) hS (fun r7 I5 J6 h H locs hP hS => ?_)
          refine x_gi (x_V C hP hS (Nat.le_of_ble_eq_true rfl) (eC_TC _ _) rfl (c_TC_receive l D κ hΘ sz v2 r4 r7 I5 J6 _ h) q_TC_receive k_588 sel_TC_receive k_586 rfl rfl ⟨Nat.le_of_ble_eq_true rfl, Nat.le_of_ble_eq_true rfl⟩ rfl hl.1 rfl (Nat.le_of_ble_eq_true rfl) d_TC_runControl_30) hS (fun r10 I8 J9 h H locs hP hS => ?_)
          exact tJ33 _ ih _ _ _ _ h _ _ _ (lv_sub hl [1, 2, 3] rfl) hP hS
        · have h := h.2 hc37
          refine lv_iconst (v := (-1 : Int32)) hx hb d_TC_runControl_19 (by decide) ?_
          refine lv_goto hx hb d_TC_runControl_20 (tgt := 33) rfl ?_
          exact tJ33 _ ih _ _ _ _ h _ _ _ (lv_sub hl [1, 2, 3] rfl) hP hS
  have hE := lg_entry_eq m [.ref (Θ (0)), .int p1] 6
  rw [← hargs] at hE
  rw [hE]
  have hl := lv_entry [.ref (Θ (0)), .int p1] (n := 6) (Nat.le_of_ble_eq_true rfl)
  generalize (lg_sl [.ref (Θ (0)), .int p1] ++ List.replicate (6 - (lg_sl [.ref (Θ (0)), .int p1]).length) Slot.unset).toArray = ls at hl ⊢
  have hl : lv_has ls 6 [(0, .ref (Θ (0))), (1, .int p1)] := hl
  unfold p_TC_runControl at h
  refine lv_iconst (v := (0 : Int32)) hx hb d_TC_runControl_0 (by decide) ?_
  refine lv_topi (fun x1 ex1 => ?_)
  have h := h x1 ex1
  refine lv_istore_n hx hb d_TC_runControl_1 rfl hl (Nat.le_of_ble_eq_true rfl) (lv' := [(2, .int x1), (0, .ref (Θ (0))), (1, .int p1)]) rfl (fun ls hl => ?_)
  obtain ⟨n39, h⟩ := h
  refine tL2 n39 _ _ _ h _ _ _ (lv_sub hl [1, 2, 0] rfl) hP hS
set_option maxHeartbeats 4000000 in
set_option maxRecDepth 100000 in
theorem c_TC_talkerOn (l : Launch) (D : va_G) (κ : Nat → ClassId) {Θ : Nat → Nat} (hΘ : xJ 52 Θ) (sz : Nat) (p1 : Int32) (I : SI) (J : SJ) (post : Option Nat → SI → SJ → Prop) (h : p_TC_talkerOn p1 post I J) : Met l y_TC_talkerOn WS rm_TC_talkerOn (va_Pc [.ref (Θ (0)), .int p1] (xPR D clA (tysA κ) 52 Θ (eC Θ κ) sz I J)) (xQo D clA 52 Θ (eC Θ κ) sz 14 8 post) 0 0 (xA 52 Θ sz) := by
  refine xMet (cc := b_TC_talkerOn) (maxL := 3) (ret := (some (.object "TrunkCells$Mobile"))) (by decide) q_TC_talkerOn.1 ?_
  intro p e s m args below meth c s₁ B hml hv
  obtain ⟨hargs, hsz, hP, hK, hN, hG⟩ := hv
  have hx := B.exec
  have hb := B.bytes
  have hr := B.returns
  have hlocks := B.notSynchronized
  have hts := atoms_spec (ws := WS) B.pre
  have hown : s.vm.findClass R_TC = some m.cls := findClass_of_methodNamed B.named
  have C : xC p m c b_TC_talkerOn 3 s args R_TC D clA (tysA κ) 52 Θ sz := ⟨⟨hx, hb, hml, hown, hts⟩, hK, hN, hG, hsz⟩
  have hS : va_S (xA 52 Θ sz) s.heap s.heap [] := va_S.rf
  have tL2 : ∀ (n : Nat) (v2 : Int32) (I : SI) (J : SJ), p_TC_talkerOn_L2 p1 post n v2 I J → ∀ (H : Heap) (locs : List Loc) (ls : Array Slot), lv_has ls 3 [(0, .ref (Θ (0))), (1, .int p1), (2, .int v2)] → va_P D clA (xw 52 Θ (eC Θ κ) I J) H → va_S (xA 52 Θ sz) s.heap H locs → W p l e (headSpec WS rm_TC_talkerOn).room s m args below meth c H locs 0 0 (MQ below (xQo D clA 52 Θ (eC Θ κ) sz 14 8 post) args s 0 0 (xA 52 Θ sz)) (F0 m 2 ls []) := by
    intro n
    induction n with
    | zero =>
      intro v2 I J h H locs ls hl hP hS
      exact h.elim
    | succ n ih =>
      intro v2 I J h H locs ls hl hP hS
      unfold p_TC_talkerOn_L2 at h
      refine lv_iload_n hx hb d_TC_talkerOn_2 rfl (lv_at hl 2 rfl) ?_
      refine lv_bipush (v := (8 : Int32)) hx hb d_TC_talkerOn_3 (by decide) ?_
      refine lv_icmp_ge hx hb d_TC_talkerOn_5 (tgt := 35) rfl (fun hc9 => ?_) (fun hc9 => ?_)
      · have h := h.1 hc9
        refine lv_null hx hb d_TC_talkerOn_35 ?_
        exact x_aretN hx hb hr hlocks hP hS h d_TC_talkerOn_36
      · have h := h.2 hc9
        refine lv_aload_n hx hb d_TC_talkerOn_8 rfl (lv_at hl 0 rfl) ?_
        refine gfC_TC_25 C hP d_TC_talkerOn_9 ?_
        refine lv_iload_n hx hb d_TC_talkerOn_12 rfl (lv_at hl 2 rfl) ?_
        obtain ⟨j2, ej2, h_j2, h⟩ := h
        refine x_aald hx hb hK hP (12) 3 (Nat.le_of_ble_eq_true rfl) eC_mobiles rfl ej2 h_j2 (by decide) d_TC_talkerOn_13 ?_
        refine lv_iload_n hx hb d_TC_talkerOn_14 rfl (lv_at hl 1 rfl) ?_
        refine lv_iconst (v := (1 : Int32)) hx hb d_TC_talkerOn_15 (by decide) ?_
        refine x_gi (x_V C hP hS (xlt h_j2 rfl) ((eC_Mo h_j2) _ _) rfl (c_Mo_isOn l D κ hΘ sz j2 h_j2 p1 (1 : Int32) I J _ h) q_Mo_isOn k_729 k_730 k_728 rfl rfl ⟨Nat.le_of_ble_eq_true rfl, Nat.le_of_ble_eq_true rfl⟩ rfl hl.1 rfl (Nat.le_of_ble_eq_true rfl) d_TC_talkerOn_16) hS (fun r5 I3 J4 h H locs hP hS => ?_)
        refine lv_if_eq hx hb d_TC_talkerOn_19 (tgt := 29) rfl (fun hc8 => ?_) (fun hc8 => ?_)
        · have h := h.1 hc8
          obtain ⟨x6, ex6⟩ : ∃ y : Int32, y = v2 + (1 : Int32) := ⟨_, rfl⟩
          have h := h x6 ex6
          refine lv_iinc (k := 2) (v := x6) hx hb d_TC_talkerOn_29 hl rfl (by rw [ex6]; rfl) (Nat.le_of_ble_eq_true rfl) (lv' := [(2, .int x6), (0, .ref (Θ (0))), (1, .int p1)]) rfl (fun ls hl => ?_)
          refine lv_goto hx hb d_TC_talkerOn_32 (tgt := 2) rfl ?_
          exact ih _ _ _ h _ _ _ (lv_sub hl [1, 2, 0] rfl) hP hS
        · have h := h.2 hc8
          refine lv_aload_n hx hb d_TC_talkerOn_22 rfl (lv_at hl 0 rfl) ?_
          refine gfC_TC_25 C hP d_TC_talkerOn_23 ?_
          refine lv_iload_n hx hb d_TC_talkerOn_26 rfl (lv_at hl 2 rfl) ?_
          obtain ⟨j7, ej7, h_j7, h⟩ := h
          refine x_aald hx hb hK hP (12) 3 (Nat.le_of_ble_eq_true rfl) eC_mobiles rfl ej7 h_j7 (by decide) d_TC_talkerOn_27 ?_
          exact x_aretS hx hb hr hlocks hP hS h_j7 h d_TC_talkerOn_28
  have hE := lg_entry_eq m [.ref (Θ (0)), .int p1] 3
  rw [← hargs] at hE
  rw [hE]
  have hl := lv_entry [.ref (Θ (0)), .int p1] (n := 3) (Nat.le_of_ble_eq_true rfl)
  generalize (lg_sl [.ref (Θ (0)), .int p1] ++ List.replicate (3 - (lg_sl [.ref (Θ (0)), .int p1]).length) Slot.unset).toArray = ls at hl ⊢
  have hl : lv_has ls 3 [(0, .ref (Θ (0))), (1, .int p1)] := hl
  unfold p_TC_talkerOn at h
  refine lv_iconst (v := (0 : Int32)) hx hb d_TC_talkerOn_0 (by decide) ?_
  refine lv_topi (fun x1 ex1 => ?_)
  have h := h x1 ex1
  refine lv_istore_n hx hb d_TC_talkerOn_1 rfl hl (Nat.le_of_ble_eq_true rfl) (lv' := [(2, .int x1), (0, .ref (Θ (0))), (1, .int p1)]) rfl (fun ls hl => ?_)
  obtain ⟨n10, h⟩ := h
  refine tL2 n10 _ _ _ h _ _ _ (lv_sub hl [1, 2, 0] rfl) hP hS
set_option maxHeartbeats 4000000 in
set_option maxRecDepth 100000 in
theorem c_TC_sendOn (l : Launch) (D : va_G) (κ : Nat → ClassId) {Θ : Nat → Nat} (hΘ : xJ 52 Θ) (sz : Nat) (p1 : Int32) (p2 : Int32) (p3 : Int32) (I : SI) (J : SJ) (post : SI → SJ → Prop) (h : p_TC_sendOn p1 p2 p3 post I J) : Met l y_TC_sendOn WS rm_TC_sendOn (va_Pc [.ref (Θ (0)), .int p1, .int p2, .int p3] (xPR D clA (tysA κ) 52 Θ (eC Θ κ) sz I J)) (xQv D clA 52 Θ (eC Θ κ) sz post) 0 0 (xA 52 Θ sz) := by
  refine xMet (cc := b_TC_sendOn) (maxL := 7) (ret := none) (by decide) q_TC_sendOn.1 ?_
  intro p e s m args below meth c s₁ B hml hv
  obtain ⟨hargs, hsz, hP, hK, hN, hG⟩ := hv
  have hx := B.exec
  have hb := B.bytes
  have hr := B.returns
  have hlocks := B.notSynchronized
  have hts := atoms_spec (ws := WS) B.pre
  have hown : s.vm.findClass R_TC = some m.cls := findClass_of_methodNamed B.named
  have C : xC p m c b_TC_sendOn 7 s args R_TC D clA (tysA κ) 52 Θ sz := ⟨⟨hx, hb, hml, hown, hts⟩, hK, hN, hG, hsz⟩
  have hS : va_S (xA 52 Θ sz) s.heap s.heap [] := va_S.rf
  have tJ81 : ∀ (k3 : Int32 → SI → SJ → Prop), (∀ (v4 : Int32) (I : SI) (J : SJ), k3 v4 I J → ∀ (H : Heap) (locs : List Loc) (ls : Array Slot), lv_has ls 7 [(0, .ref (Θ (0))), (1, .int p1), (2, .int p2), (3, .int p3), (4, .int v4)] → va_P D clA (xw 52 Θ (eC Θ κ) I J) H → va_S (xA 52 Θ sz) s.heap H locs → W p l e (headSpec WS rm_TC_sendOn).room s m args below meth c H locs 0 0 (MQ below (xQv D clA 52 Θ (eC Θ κ) sz post) args s 0 0 (xA 52 Θ sz)) (F0 m 3 ls [])) → ∀ (v4 : Int32) (I : SI) (J : SJ), p_TC_sendOn_81 p1 p2 p3 post k3 v4 I J → ∀ (H : Heap) (locs : List Loc) (ls : Array Slot), lv_has ls 7 [(0, .ref (Θ (0))), (1, .int p1), (2, .int p2), (3, .int p3), (4, .int v4)] → va_P D clA (xw 52 Θ (eC Θ κ) I J) H → va_S (xA 52 Θ sz) s.heap H locs → W p l e (headSpec WS rm_TC_sendOn).room s m args below meth c H locs 0 0 (MQ below (xQv D clA 52 Θ (eC Θ κ) sz post) args s 0 0 (xA 52 Θ sz)) (F0 m 81 ls []) := by
    intro k3 hk3 v4 I J h H locs ls hl hP hS
    unfold p_TC_sendOn_81 at h
    obtain ⟨x6, ex6⟩ : ∃ y : Int32, y = v4 + (1 : Int32) := ⟨_, rfl⟩
    have h := h x6 ex6
    refine lv_iinc (k := 4) (v := x6) hx hb d_TC_sendOn_81 hl rfl (by rw [ex6]; rfl) (Nat.le_of_ble_eq_true rfl) (lv' := [(4, .int x6), (0, .ref (Θ (0))), (1, .int p1), (2, .int p2), (3, .int p3)]) rfl (fun ls hl => ?_)
    refine lv_goto hx hb d_TC_sendOn_84 (tgt := 3) rfl ?_
    exact hk3 _ _ _ h _ _ _ (lv_sub hl [1, 2, 3, 4, 0] rfl) hP hS
  have tL3 : ∀ (n : Nat) (v4 : Int32) (I : SI) (J : SJ), p_TC_sendOn_L3 p1 p2 p3 post n v4 I J → ∀ (H : Heap) (locs : List Loc) (ls : Array Slot), lv_has ls 7 [(0, .ref (Θ (0))), (1, .int p1), (2, .int p2), (3, .int p3), (4, .int v4)] → va_P D clA (xw 52 Θ (eC Θ κ) I J) H → va_S (xA 52 Θ sz) s.heap H locs → W p l e (headSpec WS rm_TC_sendOn).room s m args below meth c H locs 0 0 (MQ below (xQv D clA 52 Θ (eC Θ κ) sz post) args s 0 0 (xA 52 Θ sz)) (F0 m 3 ls []) := by
    intro n
    induction n with
    | zero =>
      intro v4 I J h H locs ls hl hP hS
      exact h.elim
    | succ n ih =>
      intro v4 I J h H locs ls hl hP hS
      unfold p_TC_sendOn_L3 at h
      refine lv_iload hx hb d_TC_sendOn_3 (lv_at hl 4 rfl) ?_
      refine lv_bipush (v := (8 : Int32)) hx hb d_TC_sendOn_5 (by decide) ?_
      refine lv_icmp_ge hx hb d_TC_sendOn_7 (tgt := 87) rfl (fun hc21 => ?_) (fun hc21 => ?_)
      · have h := h.1 hc21
        exact x_vret hx hb hr hlocks hP hS h d_TC_sendOn_87
      · have h := h.2 hc21
        refine lv_aload_n hx hb d_TC_sendOn_10 rfl (lv_at hl 0 rfl) ?_
        refine gfC_TC_25 C hP d_TC_sendOn_11 ?_
        refine lv_iload hx hb d_TC_sendOn_14 (lv_at hl 4 rfl) ?_
        obtain ⟨j2, ej2, h_j2, h⟩ := h
        refine x_aald hx hb hK hP (12) 3 (Nat.le_of_ble_eq_true rfl) eC_mobiles rfl ej2 h_j2 (by decide) d_TC_sendOn_16 ?_
        refine lv_astore hx hb d_TC_sendOn_17 hl (Nat.le_of_ble_eq_true rfl) (lv' := [(5, .ref (Θ (14 + j2))), (0, .ref (Θ (0))), (1, .int p1), (2, .int p2), (3, .int p3), (4, .int v4)]) rfl (fun ls hl => ?_)
        refine lv_aload hx hb d_TC_sendOn_19 (lv_at hl 0 rfl) ?_
        refine lv_iload_n hx hb d_TC_sendOn_21 rfl (lv_at hl 3 rfl) ?_
        refine lv_iconst (v := (2 : Int32)) hx hb d_TC_sendOn_22 (by decide) ?_
        refine x_gi (x_V C hP hS (xlt h_j2 rfl) ((eC_Mo h_j2) _ _) rfl (c_Mo_isOn l D κ hΘ sz j2 h_j2 p2 (2 : Int32) I J _ h) q_Mo_isOn k_729 k_730 k_728 rfl rfl ⟨Nat.le_of_ble_eq_true rfl, Nat.le_of_ble_eq_true rfl⟩ rfl hl.1 rfl (Nat.le_of_ble_eq_true rfl) d_TC_sendOn_23) hS (fun r5 I3 J4 h H locs hP hS => ?_)
        refine lv_if_eq hx hb d_TC_sendOn_26 (tgt := 81) rfl (fun hc20 => ?_) (fun hc20 => ?_)
        · have h := h.1 hc20
          exact tJ81 _ ih _ _ _ h _ _ _ (lv_sub hl [1, 2, 3, 4, 5] rfl) hP hS
        · have h := h.2 hc20
          refine lv_aload_n hx hb d_TC_sendOn_29 rfl (lv_at hl 1 rfl) ?_
          refine lv_iconst (v := (3 : Int32)) hx hb d_TC_sendOn_30 (by decide) ?_
          refine lv_iload hx hb d_TC_sendOn_31 (lv_at hl 5 rfl) ?_
          refine lv_iadd hx hb d_TC_sendOn_33 ?_
          refine lv_iload_n hx hb d_TC_sendOn_34 rfl (lv_at hl 2 rfl) ?_
          refine lv_aload hx hb d_TC_sendOn_35 (lv_at hl 0 rfl) ?_
          refine gfC_TC_61 C hP h_j2 d_TC_sendOn_37 ?_
          refine x_gi (x_S C hP hS (c_TC_colourOf l D κ hΘ sz (I3 (14 + j2) 6) I3 J4 _ h) q_TC_colourOf k_584 k_583 rfl rfl ⟨Nat.le_of_ble_eq_true rfl, Nat.le_of_ble_eq_true rfl⟩ rfl hl.1 rfl (Nat.le_of_ble_eq_true rfl) d_TC_sendOn_40) hS (fun r9 I7 J8 h H locs hP hS => ?_)
          refine x_gi (x_V C hP hS (Nat.le_of_ble_eq_true rfl) (eC_TC _ _) rfl (c_TC_receive l D κ hΘ sz ((3 : Int32) + v4) p1 r9 I7 J8 _ h) q_TC_receive k_588 sel_TC_receive k_586 rfl rfl ⟨Nat.le_of_ble_eq_true rfl, Nat.le_of_ble_eq_true rfl⟩ rfl hl.1 rfl (Nat.le_of_ble_eq_true rfl) d_TC_sendOn_43) hS (fun r12 I10 J11 h H locs hP hS => ?_)
          refine lv_istore hx hb d_TC_sendOn_46 hl (Nat.le_of_ble_eq_true rfl) (lv' := [(6, .int r12), (5, .ref (Θ (14 + j2))), (0, .ref (Θ (0))), (1, .int p1), (2, .int p2), (3, .int p3), (4, .int v4)]) rfl (fun ls hl => ?_)
          refine lv_iload hx hb d_TC_sendOn_48 (lv_at hl 0 rfl) ?_
          refine lv_iconst (v := (-1 : Int32)) hx hb d_TC_sendOn_50 (by decide) ?_
          refine lv_icmp_eq hx hb d_TC_sendOn_51 (tgt := 81) rfl (fun hc19 => ?_) (fun hc19 => ?_)
          · have h := h.1 hc19
            exact tJ81 _ ih _ _ _ h _ _ _ (lv_sub hl [2, 3, 4, 5, 6] rfl) hP hS
          · have h := h.2 hc19
            refine lv_aload hx hb d_TC_sendOn_54 (lv_at hl 1 rfl) ?_
            refine lv_iload hx hb d_TC_sendOn_56 (lv_at hl 0 rfl) ?_
            refine lv_aload_n hx hb d_TC_sendOn_58 rfl (lv_at hl 2 rfl) ?_
            refine gfC_TC_19 C hP d_TC_sendOn_59 ?_
            refine gfC_TC_51 C hP d_TC_sendOn_62 ?_
            refine lv_aload hx hb d_TC_sendOn_65 (lv_at hl 1 rfl) ?_
            refine gfC_TC_245 C hP h_j2 d_TC_sendOn_67 ?_
            obtain ⟨j13, ej13, h_j13, h⟩ := h
            refine x_aald hx hb hK hP (10) 4 (Nat.le_of_ble_eq_true rfl) eC_groups rfl ej13 h_j13 (by decide) d_TC_sendOn_70 ?_
            refine gfC_TC_55 C hP h_j13 d_TC_sendOn_71 ?_
            refine lv_iload_n hx hb d_TC_sendOn_74 rfl (lv_at hl 5 rfl) ?_
            refine x_gi (x_S C hP hS (c_TC_mix l D κ hΘ sz (I10 (38 + j13) 2) p3 I10 J11 _ h) q_TC_mix k_579 k_732 rfl rfl ⟨Nat.le_of_ble_eq_true rfl, Nat.le_of_ble_eq_true rfl⟩ rfl hl.1 rfl (Nat.le_of_ble_eq_true rfl) d_TC_sendOn_75) hS (fun r16 I14 J15 h H locs hP hS => ?_)
            refine x_gv (x_V C hP hS (xlt h_j2 rfl) ((eC_Mo h_j2) _ _) rfl (c_Mo_hear l D κ hΘ sz j2 h_j2 r12 r16 I14 J15 _ h) q_Mo_hear k_751 k_752 k_750 rfl rfl ⟨Nat.le_of_ble_eq_true rfl, Nat.le_of_ble_eq_true rfl⟩ rfl hl.1 rfl (Nat.le_of_ble_eq_true rfl) d_TC_sendOn_78) hS (fun I17 J18 h H locs hP hS => ?_)
            exact tJ81 _ ih _ _ _ h _ _ _ (lv_sub hl [2, 3, 4, 5, 6] rfl) hP hS
  have hE := lg_entry_eq m [.ref (Θ (0)), .int p1, .int p2, .int p3] 7
  rw [← hargs] at hE
  rw [hE]
  have hl := lv_entry [.ref (Θ (0)), .int p1, .int p2, .int p3] (n := 7) (Nat.le_of_ble_eq_true rfl)
  generalize (lg_sl [.ref (Θ (0)), .int p1, .int p2, .int p3] ++ List.replicate (7 - (lg_sl [.ref (Θ (0)), .int p1, .int p2, .int p3]).length) Slot.unset).toArray = ls at hl ⊢
  have hl : lv_has ls 7 [(0, .ref (Θ (0))), (1, .int p1), (2, .int p2), (3, .int p3)] := hl
  unfold p_TC_sendOn at h
  refine lv_iconst (v := (0 : Int32)) hx hb d_TC_sendOn_0 (by decide) ?_
  refine lv_topi (fun x1 ex1 => ?_)
  have h := h x1 ex1
  refine lv_istore hx hb d_TC_sendOn_1 hl (Nat.le_of_ble_eq_true rfl) (lv' := [(4, .int x1), (0, .ref (Θ (0))), (1, .int p1), (2, .int p2), (3, .int p3)]) rfl (fun ls hl => ?_)
  obtain ⟨n22, h⟩ := h
  refine tL3 n22 _ _ _ h _ _ _ (lv_sub hl [1, 2, 3, 4, 0] rfl) hP hS
set_option maxHeartbeats 4000000 in
set_option maxRecDepth 100000 in
theorem c_TC_runTraffic (l : Launch) (D : va_G) (κ : Nat → ClassId) {Θ : Nat → Nat} (hΘ : xJ 52 Θ) (sz : Nat) (p1 : Int32) (p2 : Int32) (I : SI) (J : SJ) (post : SI → SJ → Prop) (h : p_TC_runTraffic p1 p2 post I J) : Met l y_TC_runTraffic WS rm_TC_runTraffic (va_Pc [.ref (Θ (0)), .int p1, .int p2] (xPR D clA (tysA κ) 52 Θ (eC Θ κ) sz I J)) (xQv D clA 52 Θ (eC Θ κ) sz post) 0 0 (xA 52 Θ sz) := by
  refine xMet (cc := b_TC_runTraffic) (maxL := 7) (ret := none) (by decide) q_TC_runTraffic.1 ?_
  intro p e s m args below meth c s₁ B hml hv
  obtain ⟨hargs, hsz, hP, hK, hN, hG⟩ := hv
  have hx := B.exec
  have hb := B.bytes
  have hr := B.returns
  have hlocks := B.notSynchronized
  have hts := atoms_spec (ws := WS) B.pre
  have hown : s.vm.findClass R_TC = some m.cls := findClass_of_methodNamed B.named
  have C : xC p m c b_TC_runTraffic 7 s args R_TC D clA (tysA κ) 52 Θ sz := ⟨⟨hx, hb, hml, hown, hts⟩, hK, hN, hG, hsz⟩
  have hS : va_S (xA 52 Θ sz) s.heap s.heap [] := va_S.rf
  have hE := lg_entry_eq m [.ref (Θ (0)), .int p1, .int p2] 7
  rw [← hargs] at hE
  rw [hE]
  have hl := lv_entry [.ref (Θ (0)), .int p1, .int p2] (n := 7) (Nat.le_of_ble_eq_true rfl)
  generalize (lg_sl [.ref (Θ (0)), .int p1, .int p2] ++ List.replicate (7 - (lg_sl [.ref (Θ (0)), .int p1, .int p2]).length) Slot.unset).toArray = ls at hl ⊢
  have hl : lv_has ls 7 [(0, .ref (Θ (0))), (1, .int p1), (2, .int p2)] := hl
  unfold p_TC_runTraffic at h
  refine lv_aload_n hx hb d_TC_runTraffic_0 rfl (lv_at hl 0 rfl) ?_
  refine lv_iload_n hx hb d_TC_runTraffic_1 rfl (lv_at hl 1 rfl) ?_
  refine x_go (x_V C hP hS (Nat.le_of_ble_eq_true rfl) (eC_TC _ _) rfl (c_TC_talkerOn l D κ hΘ sz p1 I J _ h) q_TC_talkerOn k_726 sel_TC_talkerOn k_724 rfl rfl ⟨Nat.le_of_ble_eq_true rfl, Nat.le_of_ble_eq_true rfl⟩ rfl hl.1 rfl (Nat.le_of_ble_eq_true rfl) d_TC_runTraffic_2) hS (fun I1 J2 h H locs hP hS => ?_) (fun j3 I1 J2 h_j3 h H locs hP hS => ?_)
  · have h := h.1 rfl
    refine lv_astore_nN hx hb d_TC_runTraffic_5 rfl hl (Nat.le_of_ble_eq_true rfl) (lv' := [(3, .null), (0, .ref (Θ (0))), (1, .int p1), (2, .int p2)]) rfl (fun ls hl => ?_)
    refine lv_aload_nN hx hb d_TC_runTraffic_6 rfl (lv_at hl 0 rfl) ?_
    refine lv_ifnonnullN hx hb d_TC_runTraffic_7 ?_
    exact x_vret hx hb hr hlocks hP hS h d_TC_runTraffic_10
  · have h := h.2 j3 rfl
    refine lv_astore_n hx hb d_TC_runTraffic_5 rfl hl (Nat.le_of_ble_eq_true rfl) (lv' := [(3, .ref (Θ (14 + j3))), (0, .ref (Θ (0))), (1, .int p1), (2, .int p2)]) rfl (fun ls hl => ?_)
    refine lv_aload_n hx hb d_TC_runTraffic_6 rfl (lv_at hl 0 rfl) ?_
    refine lv_ifnonnull hx hb d_TC_runTraffic_7 (tgt := 11) rfl ?_
    refine lv_aload_n hx hb d_TC_runTraffic_11 rfl (lv_at hl 0 rfl) ?_
    refine lv_aload_n hx hb d_TC_runTraffic_12 rfl (lv_at hl 1 rfl) ?_
    refine gfC_TC_19 C hP d_TC_runTraffic_13 ?_
    refine gfC_TC_51 C hP d_TC_runTraffic_16 ?_
    refine lv_aload_n hx hb d_TC_runTraffic_19 rfl (lv_at hl 0 rfl) ?_
    refine gfC_TC_245 C hP h_j3 d_TC_runTraffic_20 ?_
    obtain ⟨j4, ej4, h_j4, h⟩ := h
    refine x_aald hx hb hK hP (10) 4 (Nat.le_of_ble_eq_true rfl) eC_groups rfl ej4 h_j4 (by decide) d_TC_runTraffic_23 ?_
    refine gfC_TC_55 C hP h_j4 d_TC_runTraffic_24 ?_
    refine lv_iload_n hx hb d_TC_runTraffic_27 rfl (lv_at hl 3 rfl) ?_
    refine x_gi (x_S C hP hS (c_TC_mix l D κ hΘ sz (I1 (38 + j4) 2) p2 I1 J2 _ h) q_TC_mix k_579 k_732 rfl rfl ⟨Nat.le_of_ble_eq_true rfl, Nat.le_of_ble_eq_true rfl⟩ rfl hl.1 rfl (Nat.le_of_ble_eq_true rfl) d_TC_runTraffic_28) hS (fun r7 I5 J6 h H locs hP hS => ?_)
    refine x_gi (x_V C hP hS (xlt h_j3 rfl) ((eC_Mo h_j3) _ _) rfl (c_Mo_trafficBlock l D κ hΘ sz j3 h_j3 r7 I5 J6 _ h) q_Mo_trafficBlock k_734 k_735 k_733 rfl rfl ⟨Nat.le_of_ble_eq_true rfl, Nat.le_of_ble_eq_true rfl⟩ rfl hl.1 rfl (Nat.le_of_ble_eq_true rfl) d_TC_runTraffic_31) hS (fun r10 I8 J9 h H locs hP hS => ?_)
    refine lv_istore hx hb d_TC_runTraffic_34 hl (Nat.le_of_ble_eq_true rfl) (lv' := [(4, .int r10), (3, .ref (Θ (14 + j3))), (0, .ref (Θ (0))), (1, .int p1), (2, .int p2)]) rfl (fun ls hl => ?_)
    refine lv_aload_n hx hb d_TC_runTraffic_36 rfl (lv_at hl 2 rfl) ?_
    refine lv_aload_n hx hb d_TC_runTraffic_37 rfl (lv_at hl 1 rfl) ?_
    refine gfC_TC_61 C hP h_j3 d_TC_runTraffic_38 ?_
    refine lv_iload hx hb d_TC_runTraffic_41 (lv_at hl 0 rfl) ?_
    refine lv_aload_n hx hb d_TC_runTraffic_43 rfl (lv_at hl 1 rfl) ?_
    refine gfC_TC_61 C hP h_j3 d_TC_runTraffic_44 ?_
    refine x_gi (x_S C hP hS (c_TC_colourOf l D κ hΘ sz (I8 (14 + j3) 6) I8 J9 _ h) q_TC_colourOf k_584 k_583 rfl rfl ⟨Nat.le_of_ble_eq_true rfl, Nat.le_of_ble_eq_true rfl⟩ rfl hl.1 rfl (Nat.le_of_ble_eq_true rfl) d_TC_runTraffic_47) hS (fun r13 I11 J12 h H locs hP hS => ?_)
    refine x_gi (x_V C hP hS (Nat.le_of_ble_eq_true rfl) (eC_TC _ _) rfl (c_TC_receive l D κ hΘ sz (I8 (14 + j3) 6) r10 r13 I11 J12 _ h) q_TC_receive k_588 sel_TC_receive k_586 rfl rfl ⟨Nat.le_of_ble_eq_true rfl, Nat.le_of_ble_eq_true rfl⟩ rfl hl.1 rfl (Nat.le_of_ble_eq_true rfl) d_TC_runTraffic_50) hS (fun r16 I14 J15 h H locs hP hS => ?_)
    refine lv_istore hx hb d_TC_runTraffic_53 hl (Nat.le_of_ble_eq_true rfl) (lv' := [(5, .int r16), (4, .int r10), (3, .ref (Θ (14 + j3))), (0, .ref (Θ (0))), (1, .int p1), (2, .int p2)]) rfl (fun ls hl => ?_)
    refine lv_aload_n hx hb d_TC_runTraffic_55 rfl (lv_at hl 3 rfl) ?_
    refine gfC_TC_19 C hP d_TC_runTraffic_56 ?_
    refine lv_iload_n hx hb d_TC_runTraffic_59 rfl (lv_at hl 4 rfl) ?_
    refine x_gi (x_V C hP hS (Nat.le_of_ble_eq_true rfl) (eC_Sw _ _) rfl (c_Sw_groupOn l D κ hΘ sz p1 I14 J15 _ h) q_Sw_groupOn k_652 k_653 k_739 rfl rfl ⟨Nat.le_of_ble_eq_true rfl, Nat.le_of_ble_eq_true rfl⟩ rfl hl.1 rfl (Nat.le_of_ble_eq_true rfl) d_TC_runTraffic_60) hS (fun r19 I17 J18 h H locs hP hS => ?_)
    refine lv_istore hx hb d_TC_runTraffic_63 hl (Nat.le_of_ble_eq_true rfl) (lv' := [(6, .int r19), (5, .int r16), (4, .int r10), (3, .ref (Θ (14 + j3))), (0, .ref (Θ (0))), (1, .int p1), (2, .int p2)]) rfl (fun ls hl => ?_)
    refine lv_iload hx hb d_TC_runTraffic_65 (lv_at hl 1 rfl) ?_
    refine lv_iconst (v := (-1 : Int32)) hx hb d_TC_runTraffic_67 (by decide) ?_
    refine lv_icmp_eq hx hb d_TC_runTraffic_68 (tgt := 77) rfl (fun hc26 => ?_) (fun hc26 => ?_)
    · have h := h.1 hc26
      exact x_vret hx hb hr hlocks hP hS h d_TC_runTraffic_77
    · have h := h.2 hc26
      refine lv_iload hx hb d_TC_runTraffic_71 (lv_at hl 0 rfl) ?_
      refine lv_iconst (v := (-1 : Int32)) hx hb d_TC_runTraffic_73 (by decide) ?_
      refine lv_icmp_ne hx hb d_TC_runTraffic_74 (tgt := 78) rfl (fun hc25 => ?_) (fun hc25 => ?_)
      · have h := h.1 hc25
        refine lv_iload hx hb d_TC_runTraffic_78 (lv_at hl 1 rfl) ?_
        refine lv_ldcw (v := (524288 : Int32)) hx hb hown (hts _ k_740) d_TC_runTraffic_80 ?_
        refine lv_iand hx hb d_TC_runTraffic_83 ?_
        refine lv_if_eq hx hb d_TC_runTraffic_84 (tgt := 100) rfl (fun hc24 => ?_) (fun hc24 => ?_)
        · have h := h.1 hc24
          refine lv_aload_n hx hb d_TC_runTraffic_100 rfl (lv_at hl 4 rfl) ?_
          refine lv_iload hx hb d_TC_runTraffic_101 (lv_at hl 1 rfl) ?_
          refine lv_iload_n hx hb d_TC_runTraffic_103 rfl (lv_at hl 5 rfl) ?_
          refine lv_iload_n hx hb d_TC_runTraffic_104 rfl (lv_at hl 6 rfl) ?_
          refine x_gv (x_V C hP hS (Nat.le_of_ble_eq_true rfl) (eC_TC _ _) rfl (c_TC_sendOn l D κ hΘ sz r16 p1 p2 I17 J18 _ h) q_TC_sendOn k_748 sel_TC_sendOn k_746 rfl rfl ⟨Nat.le_of_ble_eq_true rfl, Nat.le_of_ble_eq_true rfl⟩ rfl hl.1 rfl (Nat.le_of_ble_eq_true rfl) d_TC_runTraffic_105) hS (fun I20 J21 h H locs hP hS => ?_)
          exact x_vret hx hb hr hlocks hP hS h d_TC_runTraffic_108
        · have h := h.2 hc24
          refine lv_aload_n hx hb d_TC_runTraffic_87 rfl (lv_at hl 4 rfl) ?_
          refine gfC_TC_19 C hP d_TC_runTraffic_88 ?_
          refine lv_iload hx hb d_TC_runTraffic_91 (lv_at hl 0 rfl) ?_
          refine lv_iload_n hx hb d_TC_runTraffic_93 rfl (lv_at hl 6 rfl) ?_
          refine x_gv (x_V C hP hS (Nat.le_of_ble_eq_true rfl) (eC_Sw _ _) rfl (c_Sw_endTurn l D κ hΘ sz r19 p2 I17 J18 _ h) q_Sw_endTurn k_742 k_743 k_741 rfl rfl ⟨Nat.le_of_ble_eq_true rfl, Nat.le_of_ble_eq_true rfl⟩ rfl hl.1 rfl (Nat.le_of_ble_eq_true rfl) d_TC_runTraffic_94) hS (fun I22 J23 h H locs hP hS => ?_)
          refine lv_goto hx hb d_TC_runTraffic_97 (tgt := 108) rfl ?_
          exact x_vret hx hb hr hlocks hP hS h d_TC_runTraffic_108
      · have h := h.2 hc25
        exact x_vret hx hb hr hlocks hP hS h d_TC_runTraffic_77
set_option maxHeartbeats 4000000 in
set_option maxRecDepth 100000 in
theorem c_TC_mobile (l : Launch) (D : va_G) (κ : Nat → ClassId) {Θ : Nat → Nat} (hΘ : xJ 52 Θ) (sz : Nat) (p1 : Int32) (p2 : Int32) (I : SI) (J : SJ) (post : Int32 → SI → SJ → Prop) (h : p_TC_mobile p1 p2 post I J) : Met l y_TC_mobile WS rm_TC_mobile (va_Pc [.ref (Θ (0)), .int p1, .int p2] (xPR D clA (tysA κ) 52 Θ (eC Θ κ) sz I J)) (xQi D clA 52 Θ (eC Θ κ) sz post) 0 0 (xA 52 Θ sz) := by
  refine xMet (cc := b_TC_mobile) (maxL := 3) (ret := (some .int)) (by decide) q_TC_mobile.1 ?_
  intro p e s m args below meth c s₁ B hml hv
  obtain ⟨hargs, hsz, hP, hK, hN, hG⟩ := hv
  have hx := B.exec
  have hb := B.bytes
  have hr := B.returns
  have hlocks := B.notSynchronized
  have hts := atoms_spec (ws := WS) B.pre
  have hown : s.vm.findClass R_TC = some m.cls := findClass_of_methodNamed B.named
  have C : xC p m c b_TC_mobile 3 s args R_TC D clA (tysA κ) 52 Θ sz := ⟨⟨hx, hb, hml, hown, hts⟩, hK, hN, hG, hsz⟩
  have hS : va_S (xA 52 Θ sz) s.heap s.heap [] := va_S.rf
  have hE := lg_entry_eq m [.ref (Θ (0)), .int p1, .int p2] 3
  rw [← hargs] at hE
  rw [hE]
  have hl := lv_entry [.ref (Θ (0)), .int p1, .int p2] (n := 3) (Nat.le_of_ble_eq_true rfl)
  generalize (lg_sl [.ref (Θ (0)), .int p1, .int p2] ++ List.replicate (3 - (lg_sl [.ref (Θ (0)), .int p1, .int p2]).length) Slot.unset).toArray = ls at hl ⊢
  have hl : lv_has ls 3 [(0, .ref (Θ (0))), (1, .int p1), (2, .int p2)] := hl
  unfold p_TC_mobile at h
  refine lv_iload_n hx hb d_TC_mobile_0 rfl (lv_at hl 1 rfl) ?_
  refine lv_bipush (v := (8 : Int32)) hx hb d_TC_mobile_1 (by decide) ?_
  refine x_gi (x_S C hP hS (c_TC_isIndex l D κ hΘ sz p1 (8 : Int32) I J _ h) q_TC_isIndex k_239 k_238 rfl rfl ⟨Nat.le_of_ble_eq_true rfl, Nat.le_of_ble_eq_true rfl⟩ rfl hl.1 rfl (Nat.le_of_ble_eq_true rfl) d_TC_mobile_3) hS (fun r3 I1 J2 h H locs hP hS => ?_)
  refine lv_if_ne hx hb d_TC_mobile_6 (tgt := 11) rfl (fun hc10 => ?_) (fun hc10 => ?_)
  · have h := h.1 hc10
    refine lv_iload_n hx hb d_TC_mobile_11 rfl (lv_at hl 2 rfl) ?_
    refine lv_bipush (v := (13 : Int32)) hx hb d_TC_mobile_12 (by decide) ?_
    refine lv_icmp_ne hx hb d_TC_mobile_14 (tgt := 29) rfl (fun hc9 => ?_) (fun hc9 => ?_)
    · have h := h.1 hc9
      refine lv_aload_n hx hb d_TC_mobile_29 rfl (lv_at hl 0 rfl) ?_
      refine gfC_TC_25 C hP d_TC_mobile_30 ?_
      refine lv_iload_n hx hb d_TC_mobile_33 rfl (lv_at hl 1 rfl) ?_
      obtain ⟨j4, ej4, h_j4, h⟩ := h
      refine x_aald hx hb hK hP (12) 3 (Nat.le_of_ble_eq_true rfl) eC_mobiles rfl ej4 h_j4 (by decide) d_TC_mobile_34 ?_
      refine lv_iload_n hx hb d_TC_mobile_35 rfl (lv_at hl 2 rfl) ?_
      refine x_gi (x_V C hP hS (xlt h_j4 rfl) ((eC_Mo h_j4) _ _) rfl (c_Mo_tell l D κ hΘ sz j4 h_j4 p2 I1 J2 _ h) q_Mo_tell k_242 k_243 k_241 rfl rfl ⟨Nat.le_of_ble_eq_true rfl, Nat.le_of_ble_eq_true rfl⟩ rfl hl.1 rfl (Nat.le_of_ble_eq_true rfl) d_TC_mobile_36) hS (fun r7 I5 J6 h H locs hP hS => ?_)
      exact x_iret hx hb hr hlocks hP hS h d_TC_mobile_39
    · have h := h.2 hc9
      refine lv_aload_n hx hb d_TC_mobile_17 rfl (lv_at hl 0 rfl) ?_
      refine gfC_TC_19 C hP d_TC_mobile_18 ?_
      refine gfC_TC_140 C hP d_TC_mobile_21 ?_
      refine lv_iload_n hx hb d_TC_mobile_24 rfl (lv_at hl 1 rfl) ?_
      obtain ⟨j8, ej8, h_j8, h⟩ := h
      refine x_iald hx hb hK hP (8) 0 (Nat.le_of_ble_eq_true rfl) eC_places rfl ej8 h_j8 (by decide) d_TC_mobile_25 ?_
      refine lv_goto hx hb d_TC_mobile_26 (tgt := 39) rfl ?_
      exact x_iret hx hb hr hlocks hP hS h d_TC_mobile_39
  · have h := h.2 hc10
    refine lv_iconst (v := (-1 : Int32)) hx hb d_TC_mobile_9 (by decide) ?_
    exact x_iret hx hb hr hlocks hP hS h d_TC_mobile_10
set_option maxHeartbeats 4000000 in
set_option maxRecDepth 100000 in
theorem c_TC_call (l : Launch) (D : va_G) (κ : Nat → ClassId) {Θ : Nat → Nat} (hΘ : xJ 52 Θ) (sz : Nat) (p1 : Int32) (p2 : Int32) (I : SI) (J : SJ) (post : Int32 → SI → SJ → Prop) (h : p_TC_call p1 p2 post I J) : Met l y_TC_call WS rm_TC_call (va_Pc [.ref (Θ (0)), .int p1, .int p2] (xPR D clA (tysA κ) 52 Θ (eC Θ κ) sz I J)) (xQi D clA 52 Θ (eC Θ κ) sz post) 0 0 (xA 52 Θ sz) := by
  refine xMet (cc := b_TC_call) (maxL := 3) (ret := (some .int)) (by decide) q_TC_call.1 ?_
  intro p e s m args below meth c s₁ B hml hv
  obtain ⟨hargs, hsz, hP, hK, hN, hG⟩ := hv
  have hx := B.exec
  have hb := B.bytes
  have hr := B.returns
  have hlocks := B.notSynchronized
  have hts := atoms_spec (ws := WS) B.pre
  have hown : s.vm.findClass R_TC = some m.cls := findClass_of_methodNamed B.named
  have C : xC p m c b_TC_call 3 s args R_TC D clA (tysA κ) 52 Θ sz := ⟨⟨hx, hb, hml, hown, hts⟩, hK, hN, hG, hsz⟩
  have hS : va_S (xA 52 Θ sz) s.heap s.heap [] := va_S.rf
  have hE := lg_entry_eq m [.ref (Θ (0)), .int p1, .int p2] 3
  rw [← hargs] at hE
  rw [hE]
  have hl := lv_entry [.ref (Θ (0)), .int p1, .int p2] (n := 3) (Nat.le_of_ble_eq_true rfl)
  generalize (lg_sl [.ref (Θ (0)), .int p1, .int p2] ++ List.replicate (3 - (lg_sl [.ref (Θ (0)), .int p1, .int p2]).length) Slot.unset).toArray = ls at hl ⊢
  have hl : lv_has ls 3 [(0, .ref (Θ (0))), (1, .int p1), (2, .int p2)] := hl
  unfold p_TC_call at h
  refine lv_iload_n hx hb d_TC_call_0 rfl (lv_at hl 1 rfl) ?_
  refine lv_iconst (v := (4 : Int32)) hx hb d_TC_call_1 (by decide) ?_
  refine x_gi (x_S C hP hS (c_TC_isIndex l D κ hΘ sz p1 (4 : Int32) I J _ h) q_TC_isIndex k_239 k_238 rfl rfl ⟨Nat.le_of_ble_eq_true rfl, Nat.le_of_ble_eq_true rfl⟩ rfl hl.1 rfl (Nat.le_of_ble_eq_true rfl) d_TC_call_2) hS (fun r3 I1 J2 h H locs hP hS => ?_)
  refine lv_if_eq hx hb d_TC_call_5 (tgt := 24) rfl (fun hc8 => ?_) (fun hc8 => ?_)
  · have h := h.1 hc8
    refine lv_iconst (v := (-1 : Int32)) hx hb d_TC_call_24 (by decide) ?_
    exact x_iret hx hb hr hlocks hP hS h d_TC_call_25
  · have h := h.2 hc8
    refine lv_aload_n hx hb d_TC_call_8 rfl (lv_at hl 0 rfl) ?_
    refine gfC_TC_19 C hP d_TC_call_9 ?_
    refine gfC_TC_51 C hP d_TC_call_12 ?_
    refine lv_iload_n hx hb d_TC_call_15 rfl (lv_at hl 1 rfl) ?_
    obtain ⟨j4, ej4, h_j4, h⟩ := h
    refine x_aald hx hb hK hP (10) 4 (Nat.le_of_ble_eq_true rfl) eC_groups rfl ej4 h_j4 (by decide) d_TC_call_16 ?_
    refine lv_iload_n hx hb d_TC_call_17 rfl (lv_at hl 2 rfl) ?_
    refine x_gi (x_V C hP hS (xlt h_j4 rfl) ((eC_Gr h_j4) _ _) rfl (c_Gr_tell l D κ hΘ sz j4 h_j4 p2 I1 J2 _ h) q_Gr_tell k_257 k_258 k_256 rfl rfl ⟨Nat.le_of_ble_eq_true rfl, Nat.le_of_ble_eq_true rfl⟩ rfl hl.1 rfl (Nat.le_of_ble_eq_true rfl) d_TC_call_18) hS (fun r7 I5 J6 h H locs hP hS => ?_)
    refine lv_goto hx hb d_TC_call_21 (tgt := 25) rfl ?_
    exact x_iret hx hb hr hlocks hP hS h d_TC_call_25
set_option maxHeartbeats 4000000 in
set_option maxRecDepth 100000 in
theorem c_TC_waiting (l : Launch) (D : va_G) (κ : Nat → ClassId) {Θ : Nat → Nat} (hΘ : xJ 52 Θ) (sz : Nat) (p1 : Int32) (p2 : Int32) (I : SI) (J : SJ) (post : Int32 → SI → SJ → Prop) (h : p_TC_waiting p1 p2 post I J) : Met l y_TC_waiting WS rm_TC_waiting (va_Pc [.ref (Θ (0)), .int p1, .int p2] (xPR D clA (tysA κ) 52 Θ (eC Θ κ) sz I J)) (xQi D clA 52 Θ (eC Θ κ) sz post) 0 0 (xA 52 Θ sz) := by
  refine xMet (cc := b_TC_waiting) (maxL := 3) (ret := (some .int)) (by decide) q_TC_waiting.1 ?_
  intro p e s m args below meth c s₁ B hml hv
  obtain ⟨hargs, hsz, hP, hK, hN, hG⟩ := hv
  have hx := B.exec
  have hb := B.bytes
  have hr := B.returns
  have hlocks := B.notSynchronized
  have hts := atoms_spec (ws := WS) B.pre
  have hown : s.vm.findClass R_TC = some m.cls := findClass_of_methodNamed B.named
  have C : xC p m c b_TC_waiting 3 s args R_TC D clA (tysA κ) 52 Θ sz := ⟨⟨hx, hb, hml, hown, hts⟩, hK, hN, hG, hsz⟩
  have hS : va_S (xA 52 Θ sz) s.heap s.heap [] := va_S.rf
  have hE := lg_entry_eq m [.ref (Θ (0)), .int p1, .int p2] 3
  rw [← hargs] at hE
  rw [hE]
  have hl := lv_entry [.ref (Θ (0)), .int p1, .int p2] (n := 3) (Nat.le_of_ble_eq_true rfl)
  generalize (lg_sl [.ref (Θ (0)), .int p1, .int p2] ++ List.replicate (3 - (lg_sl [.ref (Θ (0)), .int p1, .int p2]).length) Slot.unset).toArray = ls at hl ⊢
  have hl : lv_has ls 3 [(0, .ref (Θ (0))), (1, .int p1), (2, .int p2)] := hl
  unfold p_TC_waiting at h
  refine lv_iload_n hx hb d_TC_waiting_0 rfl (lv_at hl 1 rfl) ?_
  refine lv_iconst (v := (4 : Int32)) hx hb d_TC_waiting_1 (by decide) ?_
  refine x_gi (x_S C hP hS (c_TC_isIndex l D κ hΘ sz p1 (4 : Int32) I J _ h) q_TC_isIndex k_239 k_238 rfl rfl ⟨Nat.le_of_ble_eq_true rfl, Nat.le_of_ble_eq_true rfl⟩ rfl hl.1 rfl (Nat.le_of_ble_eq_true rfl) d_TC_waiting_2) hS (fun r3 I1 J2 h H locs hP hS => ?_)
  refine lv_if_eq hx hb d_TC_waiting_5 (tgt := 24) rfl (fun hc8 => ?_) (fun hc8 => ?_)
  · have h := h.1 hc8
    refine lv_iconst (v := (-1 : Int32)) hx hb d_TC_waiting_24 (by decide) ?_
    exact x_iret hx hb hr hlocks hP hS h d_TC_waiting_25
  · have h := h.2 hc8
    refine lv_aload_n hx hb d_TC_waiting_8 rfl (lv_at hl 0 rfl) ?_
    refine gfC_TC_19 C hP d_TC_waiting_9 ?_
    refine gfC_TC_51 C hP d_TC_waiting_12 ?_
    refine lv_iload_n hx hb d_TC_waiting_15 rfl (lv_at hl 1 rfl) ?_
    obtain ⟨j4, ej4, h_j4, h⟩ := h
    refine x_aald hx hb hK hP (10) 4 (Nat.le_of_ble_eq_true rfl) eC_groups rfl ej4 h_j4 (by decide) d_TC_waiting_16 ?_
    refine lv_iload_n hx hb d_TC_waiting_17 rfl (lv_at hl 2 rfl) ?_
    refine x_gi (x_V C hP hS (xlt h_j4 rfl) ((eC_Gr h_j4) _ _) rfl (c_Gr_rowAt l D κ hΘ sz j4 h_j4 p2 I1 J2 _ h) q_Gr_rowAt k_265 k_266 k_264 rfl rfl ⟨Nat.le_of_ble_eq_true rfl, Nat.le_of_ble_eq_true rfl⟩ rfl hl.1 rfl (Nat.le_of_ble_eq_true rfl) d_TC_waiting_18) hS (fun r7 I5 J6 h H locs hP hS => ?_)
    refine lv_goto hx hb d_TC_waiting_21 (tgt := 25) rfl ?_
    exact x_iret hx hb hr hlocks hP hS h d_TC_waiting_25
set_option maxHeartbeats 4000000 in
set_option maxRecDepth 100000 in
theorem c_TC_saying (l : Launch) (D : va_G) (κ : Nat → ClassId) {Θ : Nat → Nat} (hΘ : xJ 52 Θ) (sz : Nat) (p1 : Int32) (p2 : Int32) (I : SI) (J : SJ) (post : Int32 → SI → SJ → Prop) (h : p_TC_saying p1 p2 post I J) : Met l y_TC_saying WS rm_TC_saying (va_Pc [.ref (Θ (0)), .int p1, .int p2] (xPR D clA (tysA κ) 52 Θ (eC Θ κ) sz I J)) (xQi D clA 52 Θ (eC Θ κ) sz post) 0 0 (xA 52 Θ sz) := by
  refine xMet (cc := b_TC_saying) (maxL := 3) (ret := (some .int)) (by decide) q_TC_saying.1 ?_
  intro p e s m args below meth c s₁ B hml hv
  obtain ⟨hargs, hsz, hP, hK, hN, hG⟩ := hv
  have hx := B.exec
  have hb := B.bytes
  have hr := B.returns
  have hlocks := B.notSynchronized
  have hts := atoms_spec (ws := WS) B.pre
  have hown : s.vm.findClass R_TC = some m.cls := findClass_of_methodNamed B.named
  have C : xC p m c b_TC_saying 3 s args R_TC D clA (tysA κ) 52 Θ sz := ⟨⟨hx, hb, hml, hown, hts⟩, hK, hN, hG, hsz⟩
  have hS : va_S (xA 52 Θ sz) s.heap s.heap [] := va_S.rf
  have hE := lg_entry_eq m [.ref (Θ (0)), .int p1, .int p2] 3
  rw [← hargs] at hE
  rw [hE]
  have hl := lv_entry [.ref (Θ (0)), .int p1, .int p2] (n := 3) (Nat.le_of_ble_eq_true rfl)
  generalize (lg_sl [.ref (Θ (0)), .int p1, .int p2] ++ List.replicate (3 - (lg_sl [.ref (Θ (0)), .int p1, .int p2]).length) Slot.unset).toArray = ls at hl ⊢
  have hl : lv_has ls 3 [(0, .ref (Θ (0))), (1, .int p1), (2, .int p2)] := hl
  unfold p_TC_saying at h
  refine lv_iload_n hx hb d_TC_saying_0 rfl (lv_at hl 1 rfl) ?_
  refine lv_iconst (v := (3 : Int32)) hx hb d_TC_saying_1 (by decide) ?_
  refine x_gi (x_S C hP hS (c_TC_isIndex l D κ hΘ sz p1 (3 : Int32) I J _ h) q_TC_isIndex k_239 k_238 rfl rfl ⟨Nat.le_of_ble_eq_true rfl, Nat.le_of_ble_eq_true rfl⟩ rfl hl.1 rfl (Nat.le_of_ble_eq_true rfl) d_TC_saying_2) hS (fun r3 I1 J2 h H locs hP hS => ?_)
  refine lv_if_eq hx hb d_TC_saying_5 (tgt := 24) rfl (fun hc8 => ?_) (fun hc8 => ?_)
  · have h := h.1 hc8
    refine lv_iconst (v := (-1 : Int32)) hx hb d_TC_saying_24 (by decide) ?_
    exact x_iret hx hb hr hlocks hP hS h d_TC_saying_25
  · have h := h.2 hc8
    refine lv_aload_n hx hb d_TC_saying_8 rfl (lv_at hl 0 rfl) ?_
    refine gfC_TC_19 C hP d_TC_saying_9 ?_
    refine gfC_TC_151 C hP d_TC_saying_12 ?_
    refine lv_iload_n hx hb d_TC_saying_15 rfl (lv_at hl 1 rfl) ?_
    obtain ⟨j4, ej4, h_j4, h⟩ := h
    refine x_aald hx hb hK hP (11) 5 (Nat.le_of_ble_eq_true rfl) eC_cells rfl ej4 h_j4 (by decide) d_TC_saying_16 ?_
    refine lv_iload_n hx hb d_TC_saying_17 rfl (lv_at hl 2 rfl) ?_
    refine x_gi (x_V C hP hS (xlt h_j4 rfl) ((eC_Ce h_j4) _ _) rfl (c_Ce_sayingAt l D κ hΘ sz j4 h_j4 p2 I1 J2 _ h) q_Ce_sayingAt k_274 k_275 k_273 rfl rfl ⟨Nat.le_of_ble_eq_true rfl, Nat.le_of_ble_eq_true rfl⟩ rfl hl.1 rfl (Nat.le_of_ble_eq_true rfl) d_TC_saying_18) hS (fun r7 I5 J6 h H locs hP hS => ?_)
    refine lv_goto hx hb d_TC_saying_21 (tgt := 25) rfl ?_
    exact x_iret hx hb hr hlocks hP hS h d_TC_saying_25
set_option maxHeartbeats 4000000 in
set_option maxRecDepth 100000 in
theorem c_TC_coded (l : Launch) (D : va_G) (κ : Nat → ClassId) {Θ : Nat → Nat} (hΘ : xJ 52 Θ) (sz : Nat) (p1 : Int32) (p2 : Int32) (I : SI) (J : SJ) (post : Int64 → SI → SJ → Prop) (h : p_TC_coded p1 p2 post I J) : Met l y_TC_coded WS rm_TC_coded (va_Pc [.ref (Θ (0)), .int p1, .int p2] (xPR D clA (tysA κ) 52 Θ (eC Θ κ) sz I J)) (xQl D clA 52 Θ (eC Θ κ) sz post) 0 0 (xA 52 Θ sz) := by
  refine xMet (cc := b_TC_coded) (maxL := 3) (ret := (some .long)) (by decide) q_TC_coded.1 ?_
  intro p e s m args below meth c s₁ B hml hv
  obtain ⟨hargs, hsz, hP, hK, hN, hG⟩ := hv
  have hx := B.exec
  have hb := B.bytes
  have hr := B.returns
  have hlocks := B.notSynchronized
  have hts := atoms_spec (ws := WS) B.pre
  have hown : s.vm.findClass R_TC = some m.cls := findClass_of_methodNamed B.named
  have C : xC p m c b_TC_coded 3 s args R_TC D clA (tysA κ) 52 Θ sz := ⟨⟨hx, hb, hml, hown, hts⟩, hK, hN, hG, hsz⟩
  have hS : va_S (xA 52 Θ sz) s.heap s.heap [] := va_S.rf
  have hE := lg_entry_eq m [.ref (Θ (0)), .int p1, .int p2] 3
  rw [← hargs] at hE
  rw [hE]
  have hl := lv_entry [.ref (Θ (0)), .int p1, .int p2] (n := 3) (Nat.le_of_ble_eq_true rfl)
  generalize (lg_sl [.ref (Θ (0)), .int p1, .int p2] ++ List.replicate (3 - (lg_sl [.ref (Θ (0)), .int p1, .int p2]).length) Slot.unset).toArray = ls at hl ⊢
  have hl : lv_has ls 3 [(0, .ref (Θ (0))), (1, .int p1), (2, .int p2)] := hl
  unfold p_TC_coded at h
  refine lv_aload_n hx hb d_TC_coded_0 rfl (lv_at hl 0 rfl) ?_
  refine gfC_TC_10 C hP d_TC_coded_1 ?_
  refine lv_iload_n hx hb d_TC_coded_4 rfl (lv_at hl 1 rfl) ?_
  refine lv_iload_n hx hb d_TC_coded_5 rfl (lv_at hl 2 rfl) ?_
  refine x_gl (x_V C hP hS (Nat.le_of_ble_eq_true rfl) (eC_Co _ _) rfl (c_Co_burstOf l D κ hΘ sz p1 p2 I J _ h) q_Co_burstOf k_283 k_284 k_282 rfl rfl ⟨Nat.le_of_ble_eq_true rfl, Nat.le_of_ble_eq_true rfl⟩ rfl hl.1 rfl (Nat.le_of_ble_eq_true rfl) d_TC_coded_6) hS (fun r3 I1 J2 h H locs hP hS => ?_)
  exact x_lret hx hb hr hlocks hP hS h d_TC_coded_9
set_option maxHeartbeats 4000000 in
set_option maxRecDepth 100000 in
theorem c_TC_decoded (l : Launch) (D : va_G) (κ : Nat → ClassId) {Θ : Nat → Nat} (hΘ : xJ 52 Θ) (sz : Nat) (p1 : Int64) (p3 : Int32) (I : SI) (J : SJ) (post : Int32 → SI → SJ → Prop) (h : p_TC_decoded p1 p3 post I J) : Met l y_TC_decoded WS rm_TC_decoded (va_Pc [.ref (Θ (0)), .long p1, .int p3] (xPR D clA (tysA κ) 52 Θ (eC Θ κ) sz I J)) (xQi D clA 52 Θ (eC Θ κ) sz post) 0 0 (xA 52 Θ sz) := by
  refine xMet (cc := b_TC_decoded) (maxL := 4) (ret := (some .int)) (by decide) q_TC_decoded.1 ?_
  intro p e s m args below meth c s₁ B hml hv
  obtain ⟨hargs, hsz, hP, hK, hN, hG⟩ := hv
  have hx := B.exec
  have hb := B.bytes
  have hr := B.returns
  have hlocks := B.notSynchronized
  have hts := atoms_spec (ws := WS) B.pre
  have hown : s.vm.findClass R_TC = some m.cls := findClass_of_methodNamed B.named
  have C : xC p m c b_TC_decoded 4 s args R_TC D clA (tysA κ) 52 Θ sz := ⟨⟨hx, hb, hml, hown, hts⟩, hK, hN, hG, hsz⟩
  have hS : va_S (xA 52 Θ sz) s.heap s.heap [] := va_S.rf
  have hE := lg_entry_eq m [.ref (Θ (0)), .long p1, .int p3] 4
  rw [← hargs] at hE
  rw [hE]
  have hl := lv_entry [.ref (Θ (0)), .long p1, .int p3] (n := 4) (Nat.le_of_ble_eq_true rfl)
  generalize (lg_sl [.ref (Θ (0)), .long p1, .int p3] ++ List.replicate (4 - (lg_sl [.ref (Θ (0)), .long p1, .int p3]).length) Slot.unset).toArray = ls at hl ⊢
  have hl : lv_has ls 4 [(0, .ref (Θ (0))), (1, .long p1), (3, .int p3)] := hl
  unfold p_TC_decoded at h
  refine lv_aload_n hx hb d_TC_decoded_0 rfl (lv_at hl 0 rfl) ?_
  refine gfC_TC_10 C hP d_TC_decoded_1 ?_
  refine lv_lload_n hx hb d_TC_decoded_4 rfl (lv_at hl 1 rfl) ?_
  refine lv_iload_n hx hb d_TC_decoded_5 rfl (lv_at hl 2 rfl) ?_
  refine x_gi (x_V C hP hS (Nat.le_of_ble_eq_true rfl) (eC_Co _ _) rfl (c_Co_blockOf l D κ hΘ sz p1 p3 I J _ h) q_Co_blockOf k_304 k_305 k_303 rfl rfl ⟨Nat.le_of_ble_eq_true rfl, Nat.le_of_ble_eq_true rfl⟩ rfl hl.1 rfl (Nat.le_of_ble_eq_true rfl) d_TC_decoded_6) hS (fun r3 I1 J2 h H locs hP hS => ?_)
  exact x_iret hx hb hr hlocks hP hS h d_TC_decoded_9
set_option maxHeartbeats 4000000 in
set_option maxRecDepth 100000 in
theorem c_TC_distance (l : Launch) (D : va_G) (κ : Nat → ClassId) {Θ : Nat → Nat} (hΘ : xJ 52 Θ) (sz : Nat) (p1 : Int64) (p3 : Int32) (I : SI) (J : SJ) (post : Int32 → SI → SJ → Prop) (h : p_TC_distance p1 p3 post I J) : Met l y_TC_distance WS rm_TC_distance (va_Pc [.ref (Θ (0)), .long p1, .int p3] (xPR D clA (tysA κ) 52 Θ (eC Θ κ) sz I J)) (xQi D clA 52 Θ (eC Θ κ) sz post) 0 0 (xA 52 Θ sz) := by
  refine xMet (cc := b_TC_distance) (maxL := 4) (ret := (some .int)) (by decide) q_TC_distance.1 ?_
  intro p e s m args below meth c s₁ B hml hv
  obtain ⟨hargs, hsz, hP, hK, hN, hG⟩ := hv
  have hx := B.exec
  have hb := B.bytes
  have hr := B.returns
  have hlocks := B.notSynchronized
  have hts := atoms_spec (ws := WS) B.pre
  have hown : s.vm.findClass R_TC = some m.cls := findClass_of_methodNamed B.named
  have C : xC p m c b_TC_distance 4 s args R_TC D clA (tysA κ) 52 Θ sz := ⟨⟨hx, hb, hml, hown, hts⟩, hK, hN, hG, hsz⟩
  have hS : va_S (xA 52 Θ sz) s.heap s.heap [] := va_S.rf
  have hE := lg_entry_eq m [.ref (Θ (0)), .long p1, .int p3] 4
  rw [← hargs] at hE
  rw [hE]
  have hl := lv_entry [.ref (Θ (0)), .long p1, .int p3] (n := 4) (Nat.le_of_ble_eq_true rfl)
  generalize (lg_sl [.ref (Θ (0)), .long p1, .int p3] ++ List.replicate (4 - (lg_sl [.ref (Θ (0)), .long p1, .int p3]).length) Slot.unset).toArray = ls at hl ⊢
  have hl : lv_has ls 4 [(0, .ref (Θ (0))), (1, .long p1), (3, .int p3)] := hl
  unfold p_TC_distance at h
  refine lv_aload_n hx hb d_TC_distance_0 rfl (lv_at hl 0 rfl) ?_
  refine gfC_TC_10 C hP d_TC_distance_1 ?_
  refine lv_lload_n hx hb d_TC_distance_4 rfl (lv_at hl 1 rfl) ?_
  refine lv_iload_n hx hb d_TC_distance_5 rfl (lv_at hl 2 rfl) ?_
  refine x_gl (x_V C hP hS (Nat.le_of_ble_eq_true rfl) (eC_Co _ _) rfl (c_Co_nearest l D κ hΘ sz p1 p3 I J _ h) q_Co_nearest k_308 k_309 k_326 rfl rfl ⟨Nat.le_of_ble_eq_true rfl, Nat.le_of_ble_eq_true rfl⟩ rfl hl.1 rfl (Nat.le_of_ble_eq_true rfl) d_TC_distance_6) hS (fun r3 I1 J2 h H locs hP hS => ?_)
  refine x_gi (x_S C hP hS (c_Co_unlikePlaces l D κ hΘ sz r3 I1 J2 _ h) q_Co_unlikePlaces k_328 k_327 rfl rfl ⟨Nat.le_of_ble_eq_true rfl, Nat.le_of_ble_eq_true rfl⟩ rfl hl.1 rfl (Nat.le_of_ble_eq_true rfl) d_TC_distance_9) hS (fun r6 I4 J5 h H locs hP hS => ?_)
  exact x_iret hx hb hr hlocks hP hS h d_TC_distance_12
