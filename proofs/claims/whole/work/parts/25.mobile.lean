theorem d_Mo_join_0 : decode b_Mo_join 0 = .ok (.aload_n 0, 1) := by decide +kernel
theorem d_Mo_join_1 : decode b_Mo_join 1 = .ok (.iload_n 1, 1) := by decide +kernel
theorem d_Mo_join_2 : decode b_Mo_join 2 = .ok (.putfield 32, 3) := by decide +kernel
theorem d_Mo_join_5 : decode b_Mo_join 5 = .ok (.aload_n 0, 1) := by decide +kernel
theorem d_Mo_join_6 : decode b_Mo_join 6 = .ok (.iload_n 2, 1) := by decide +kernel
theorem d_Mo_join_7 : decode b_Mo_join 7 = .ok (.putfield 35, 3) := by decide +kernel
theorem d_Mo_join_10 : decode b_Mo_join 10 = .ok (.aload_n 0, 1) := by decide +kernel
theorem d_Mo_join_11 : decode b_Mo_join 11 = .ok (.iload_n 3, 1) := by decide +kernel
theorem d_Mo_join_12 : decode b_Mo_join 12 = .ok (.putfield 38, 3) := by decide +kernel
theorem d_Mo_join_15 : decode b_Mo_join 15 = .ok (.return_, 1) := by decide +kernel
theorem d_Mo_turnIdle_0 : decode b_Mo_turnIdle 0 = .ok (.aload_n 0, 1) := by decide +kernel
theorem d_Mo_turnIdle_1 : decode b_Mo_turnIdle 1 = .ok (.iconst (0), 1) := by decide +kernel
theorem d_Mo_turnIdle_2 : decode b_Mo_turnIdle 2 = .ok (.iconst (-1), 1) := by decide +kernel
theorem d_Mo_turnIdle_3 : decode b_Mo_turnIdle 3 = .ok (.iconst (-1), 1) := by decide +kernel
theorem d_Mo_turnIdle_4 : decode b_Mo_turnIdle 4 = .ok (.invokevirtual 47, 3) := by decide +kernel
theorem d_Mo_turnIdle_7 : decode b_Mo_turnIdle 7 = .ok (.return_, 1) := by decide +kernel
theorem d_Mo_isOn_0 : decode b_Mo_isOn 0 = .ok (.aload_n 0, 1) := by decide +kernel
theorem d_Mo_isOn_1 : decode b_Mo_isOn 1 = .ok (.getfield 32, 3) := by decide +kernel
theorem d_Mo_isOn_4 : decode b_Mo_isOn 4 = .ok (.iload_n 2, 1) := by decide +kernel
theorem d_Mo_isOn_5 : decode b_Mo_isOn 5 = .ok (.if_icmp .ne (15), 3) := by decide +kernel
theorem d_Mo_isOn_8 : decode b_Mo_isOn 8 = .ok (.aload_n 0, 1) := by decide +kernel
theorem d_Mo_isOn_9 : decode b_Mo_isOn 9 = .ok (.getfield 35, 3) := by decide +kernel
theorem d_Mo_isOn_12 : decode b_Mo_isOn 12 = .ok (.iload_n 1, 1) := by decide +kernel
theorem d_Mo_isOn_13 : decode b_Mo_isOn 13 = .ok (.if_icmp .ne (7), 3) := by decide +kernel
theorem d_Mo_isOn_16 : decode b_Mo_isOn 16 = .ok (.iconst (1), 1) := by decide +kernel
theorem d_Mo_isOn_17 : decode b_Mo_isOn 17 = .ok (.goto (4), 3) := by decide +kernel
theorem d_Mo_isOn_20 : decode b_Mo_isOn 20 = .ok (.iconst (0), 1) := by decide +kernel
theorem d_Mo_isOn_21 : decode b_Mo_isOn 21 = .ok (.ireturn, 1) := by decide +kernel
theorem d_Mo_addDraw_0 : decode b_Mo_addDraw 0 = .ok (.aload_n 0, 1) := by decide +kernel
theorem d_Mo_addDraw_1 : decode b_Mo_addDraw 1 = .ok (.getfield 51, 3) := by decide +kernel
theorem d_Mo_addDraw_4 : decode b_Mo_addDraw 4 = .ok (.bipush (8), 2) := by decide +kernel
theorem d_Mo_addDraw_6 : decode b_Mo_addDraw 6 = .ok (.if_icmp .lt (5), 3) := by decide +kernel
theorem d_Mo_addDraw_9 : decode b_Mo_addDraw 9 = .ok (.iconst (0), 1) := by decide +kernel
theorem d_Mo_addDraw_10 : decode b_Mo_addDraw 10 = .ok (.ireturn, 1) := by decide +kernel
theorem d_Mo_addDraw_11 : decode b_Mo_addDraw 11 = .ok (.aload_n 0, 1) := by decide +kernel
theorem d_Mo_addDraw_12 : decode b_Mo_addDraw 12 = .ok (.getfield 22, 3) := by decide +kernel
theorem d_Mo_addDraw_15 : decode b_Mo_addDraw 15 = .ok (.aload_n 0, 1) := by decide +kernel
theorem d_Mo_addDraw_16 : decode b_Mo_addDraw 16 = .ok (.getfield 51, 3) := by decide +kernel
theorem d_Mo_addDraw_19 : decode b_Mo_addDraw 19 = .ok (.iload_n 1, 1) := by decide +kernel
theorem d_Mo_addDraw_20 : decode b_Mo_addDraw 20 = .ok (.iastore, 1) := by decide +kernel
theorem d_Mo_addDraw_21 : decode b_Mo_addDraw 21 = .ok (.aload_n 0, 1) := by decide +kernel
theorem d_Mo_addDraw_22 : decode b_Mo_addDraw 22 = .ok (.dup, 1) := by decide +kernel
theorem d_Mo_addDraw_23 : decode b_Mo_addDraw 23 = .ok (.getfield 51, 3) := by decide +kernel
theorem d_Mo_addDraw_26 : decode b_Mo_addDraw 26 = .ok (.iconst (1), 1) := by decide +kernel
theorem d_Mo_addDraw_27 : decode b_Mo_addDraw 27 = .ok (.iadd, 1) := by decide +kernel
theorem d_Mo_addDraw_28 : decode b_Mo_addDraw 28 = .ok (.putfield 51, 3) := by decide +kernel
theorem d_Mo_addDraw_31 : decode b_Mo_addDraw 31 = .ok (.iconst (1), 1) := by decide +kernel
theorem d_Mo_addDraw_32 : decode b_Mo_addDraw 32 = .ok (.ireturn, 1) := by decide +kernel
theorem d_Mo_takeDraw_0 : decode b_Mo_takeDraw 0 = .ok (.aload_n 0, 1) := by decide +kernel
theorem d_Mo_takeDraw_1 : decode b_Mo_takeDraw 1 = .ok (.getfield 51, 3) := by decide +kernel
theorem d_Mo_takeDraw_4 : decode b_Mo_takeDraw 4 = .ok (.ifCond .ne (5), 3) := by decide +kernel
theorem d_Mo_takeDraw_7 : decode b_Mo_takeDraw 7 = .ok (.iconst (1), 1) := by decide +kernel
theorem d_Mo_takeDraw_8 : decode b_Mo_takeDraw 8 = .ok (.ireturn, 1) := by decide +kernel
theorem d_Mo_takeDraw_9 : decode b_Mo_takeDraw 9 = .ok (.aload_n 0, 1) := by decide +kernel
theorem d_Mo_takeDraw_10 : decode b_Mo_takeDraw 10 = .ok (.getfield 22, 3) := by decide +kernel
theorem d_Mo_takeDraw_13 : decode b_Mo_takeDraw 13 = .ok (.iconst (0), 1) := by decide +kernel
theorem d_Mo_takeDraw_14 : decode b_Mo_takeDraw 14 = .ok (.iaload, 1) := by decide +kernel
theorem d_Mo_takeDraw_15 : decode b_Mo_takeDraw 15 = .ok (.istore_n 1, 1) := by decide +kernel
theorem d_Mo_takeDraw_16 : decode b_Mo_takeDraw 16 = .ok (.aload_n 0, 1) := by decide +kernel
theorem d_Mo_takeDraw_17 : decode b_Mo_takeDraw 17 = .ok (.dup, 1) := by decide +kernel
theorem d_Mo_takeDraw_18 : decode b_Mo_takeDraw 18 = .ok (.getfield 51, 3) := by decide +kernel
theorem d_Mo_takeDraw_21 : decode b_Mo_takeDraw 21 = .ok (.iconst (1), 1) := by decide +kernel
theorem d_Mo_takeDraw_22 : decode b_Mo_takeDraw 22 = .ok (.isub, 1) := by decide +kernel
theorem d_Mo_takeDraw_23 : decode b_Mo_takeDraw 23 = .ok (.putfield 51, 3) := by decide +kernel
theorem d_Mo_takeDraw_26 : decode b_Mo_takeDraw 26 = .ok (.aload_n 0, 1) := by decide +kernel
theorem d_Mo_takeDraw_27 : decode b_Mo_takeDraw 27 = .ok (.getfield 22, 3) := by decide +kernel
theorem d_Mo_takeDraw_30 : decode b_Mo_takeDraw 30 = .ok (.iconst (1), 1) := by decide +kernel
theorem d_Mo_takeDraw_31 : decode b_Mo_takeDraw 31 = .ok (.aload_n 0, 1) := by decide +kernel
theorem d_Mo_takeDraw_32 : decode b_Mo_takeDraw 32 = .ok (.getfield 22, 3) := by decide +kernel
theorem d_Mo_takeDraw_35 : decode b_Mo_takeDraw 35 = .ok (.iconst (0), 1) := by decide +kernel
theorem d_Mo_takeDraw_36 : decode b_Mo_takeDraw 36 = .ok (.aload_n 0, 1) := by decide +kernel
theorem d_Mo_takeDraw_37 : decode b_Mo_takeDraw 37 = .ok (.getfield 51, 3) := by decide +kernel
theorem d_Mo_takeDraw_40 : decode b_Mo_takeDraw 40 = .ok (.invokestatic 54, 3) := by decide +kernel
theorem d_Mo_takeDraw_43 : decode b_Mo_takeDraw 43 = .ok (.iload_n 1, 1) := by decide +kernel
theorem d_Mo_takeDraw_44 : decode b_Mo_takeDraw 44 = .ok (.ireturn, 1) := by decide +kernel
theorem d_Mo_messageBlock_0 : decode b_Mo_messageBlock 0 = .ok (.aload_n 0, 1) := by decide +kernel
theorem d_Mo_messageBlock_1 : decode b_Mo_messageBlock 1 = .ok (.getfield 18, 3) := by decide +kernel
theorem d_Mo_messageBlock_4 : decode b_Mo_messageBlock 4 = .ok (.invokevirtual 60, 3) := by decide +kernel
theorem d_Mo_messageBlock_7 : decode b_Mo_messageBlock 7 = .ok (.iconst (1), 1) := by decide +kernel
theorem d_Mo_messageBlock_8 : decode b_Mo_messageBlock 8 = .ok (.if_icmp .ne (26), 3) := by decide +kernel
theorem d_Mo_messageBlock_11 : decode b_Mo_messageBlock 11 = .ok (.aload_n 0, 1) := by decide +kernel
theorem d_Mo_messageBlock_12 : decode b_Mo_messageBlock 12 = .ok (.getfield 18, 3) := by decide +kernel
theorem d_Mo_messageBlock_15 : decode b_Mo_messageBlock 15 = .ok (.getfield 66, 3) := by decide +kernel
theorem d_Mo_messageBlock_18 : decode b_Mo_messageBlock 18 = .ok (.aload_n 0, 1) := by decide +kernel
theorem d_Mo_messageBlock_19 : decode b_Mo_messageBlock 19 = .ok (.getfield 69, 3) := by decide +kernel
theorem d_Mo_messageBlock_22 : decode b_Mo_messageBlock 22 = .ok (.iload_n 1, 1) := by decide +kernel
theorem d_Mo_messageBlock_23 : decode b_Mo_messageBlock 23 = .ok (.invokestatic 72, 3) := by decide +kernel
theorem d_Mo_messageBlock_26 : decode b_Mo_messageBlock 26 = .ok (.sipush (511), 3) := by decide +kernel
theorem d_Mo_messageBlock_29 : decode b_Mo_messageBlock 29 = .ok (.iand, 1) := by decide +kernel
theorem d_Mo_messageBlock_30 : decode b_Mo_messageBlock 30 = .ok (.ior, 1) := by decide +kernel
theorem d_Mo_messageBlock_31 : decode b_Mo_messageBlock 31 = .ok (.goto (10), 3) := by decide +kernel
theorem d_Mo_messageBlock_34 : decode b_Mo_messageBlock 34 = .ok (.aload_n 0, 1) := by decide +kernel
theorem d_Mo_messageBlock_35 : decode b_Mo_messageBlock 35 = .ok (.getfield 18, 3) := by decide +kernel
theorem d_Mo_messageBlock_38 : decode b_Mo_messageBlock 38 = .ok (.getfield 66, 3) := by decide +kernel
theorem d_Mo_messageBlock_41 : decode b_Mo_messageBlock 41 = .ok (.ireturn, 1) := by decide +kernel
theorem d_Mo_settleMessage_0 : decode b_Mo_settleMessage 0 = .ok (.aload_n 0, 1) := by decide +kernel
theorem d_Mo_settleMessage_1 : decode b_Mo_settleMessage 1 = .ok (.getfield 18, 3) := by decide +kernel
theorem d_Mo_settleMessage_4 : decode b_Mo_settleMessage 4 = .ok (.getfield 76, 3) := by decide +kernel
theorem d_Mo_settleMessage_7 : decode b_Mo_settleMessage 7 = .ok (.ifCond .ne (4), 3) := by decide +kernel
theorem d_Mo_settleMessage_10 : decode b_Mo_settleMessage 10 = .ok (.return_, 1) := by decide +kernel
theorem d_Mo_settleMessage_11 : decode b_Mo_settleMessage 11 = .ok (.aload_n 0, 1) := by decide +kernel
theorem d_Mo_settleMessage_12 : decode b_Mo_settleMessage 12 = .ok (.getfield 18, 3) := by decide +kernel
theorem d_Mo_settleMessage_15 : decode b_Mo_settleMessage 15 = .ok (.dup, 1) := by decide +kernel
theorem d_Mo_settleMessage_16 : decode b_Mo_settleMessage 16 = .ok (.getfield 80, 3) := by decide +kernel
theorem d_Mo_settleMessage_19 : decode b_Mo_settleMessage 19 = .ok (.iconst (1), 1) := by decide +kernel
theorem d_Mo_settleMessage_20 : decode b_Mo_settleMessage 20 = .ok (.iadd, 1) := by decide +kernel
theorem d_Mo_settleMessage_21 : decode b_Mo_settleMessage 21 = .ok (.putfield 80, 3) := by decide +kernel
theorem d_Mo_settleMessage_24 : decode b_Mo_settleMessage 24 = .ok (.aload_n 0, 1) := by decide +kernel
theorem d_Mo_settleMessage_25 : decode b_Mo_settleMessage 25 = .ok (.getfield 18, 3) := by decide +kernel
theorem d_Mo_settleMessage_28 : decode b_Mo_settleMessage 28 = .ok (.getfield 80, 3) := by decide +kernel
theorem d_Mo_settleMessage_31 : decode b_Mo_settleMessage 31 = .ok (.iconst (5), 1) := by decide +kernel
theorem d_Mo_settleMessage_32 : decode b_Mo_settleMessage 32 = .ok (.if_icmp .lt (13), 3) := by decide +kernel
theorem d_Mo_settleMessage_35 : decode b_Mo_settleMessage 35 = .ok (.aload_n 0, 1) := by decide +kernel
theorem d_Mo_settleMessage_36 : decode b_Mo_settleMessage 36 = .ok (.getfield 18, 3) := by decide +kernel
theorem d_Mo_settleMessage_39 : decode b_Mo_settleMessage 39 = .ok (.invokevirtual 83, 3) := by decide +kernel
theorem d_Mo_settleMessage_42 : decode b_Mo_settleMessage 42 = .ok (.goto (14), 3) := by decide +kernel
theorem d_Mo_settleMessage_45 : decode b_Mo_settleMessage 45 = .ok (.aload_n 0, 1) := by decide +kernel
theorem d_Mo_settleMessage_46 : decode b_Mo_settleMessage 46 = .ok (.getfield 18, 3) := by decide +kernel
theorem d_Mo_settleMessage_49 : decode b_Mo_settleMessage 49 = .ok (.aload_n 0, 1) := by decide +kernel
theorem d_Mo_settleMessage_50 : decode b_Mo_settleMessage 50 = .ok (.invokevirtual 86, 3) := by decide +kernel
theorem d_Mo_settleMessage_53 : decode b_Mo_settleMessage 53 = .ok (.putfield 89, 3) := by decide +kernel
theorem d_Mo_settleMessage_56 : decode b_Mo_settleMessage 56 = .ok (.return_, 1) := by decide +kernel
theorem d_Mo_followGrant_0 : decode b_Mo_followGrant 0 = .ok (.iload_n 1, 1) := by decide +kernel
theorem d_Mo_followGrant_1 : decode b_Mo_followGrant 1 = .ok (.ifCond .eq (21), 3) := by decide +kernel
theorem d_Mo_followGrant_4 : decode b_Mo_followGrant 4 = .ok (.aload_n 0, 1) := by decide +kernel
theorem d_Mo_followGrant_5 : decode b_Mo_followGrant 5 = .ok (.getfield 29, 3) := by decide +kernel
theorem d_Mo_followGrant_8 : decode b_Mo_followGrant 8 = .ok (.iload_n 2, 1) := by decide +kernel
theorem d_Mo_followGrant_9 : decode b_Mo_followGrant 9 = .ok (.if_icmp .ne (13), 3) := by decide +kernel
theorem d_Mo_followGrant_12 : decode b_Mo_followGrant 12 = .ok (.aload_n 0, 1) := by decide +kernel
theorem d_Mo_followGrant_13 : decode b_Mo_followGrant 13 = .ok (.iconst (1), 1) := by decide +kernel
theorem d_Mo_followGrant_14 : decode b_Mo_followGrant 14 = .ok (.iload_n 3, 1) := by decide +kernel
theorem d_Mo_followGrant_15 : decode b_Mo_followGrant 15 = .ok (.iload_n 2, 1) := by decide +kernel
theorem d_Mo_followGrant_16 : decode b_Mo_followGrant 16 = .ok (.invokevirtual 47, 3) := by decide +kernel
theorem d_Mo_followGrant_19 : decode b_Mo_followGrant 19 = .ok (.goto (26), 3) := by decide +kernel
theorem d_Mo_followGrant_22 : decode b_Mo_followGrant 22 = .ok (.aload_n 0, 1) := by decide +kernel
theorem d_Mo_followGrant_23 : decode b_Mo_followGrant 23 = .ok (.getfield 32, 3) := by decide +kernel
theorem d_Mo_followGrant_26 : decode b_Mo_followGrant 26 = .ok (.iconst (1), 1) := by decide +kernel
theorem d_Mo_followGrant_27 : decode b_Mo_followGrant 27 = .ok (.if_icmp .ne (11), 3) := by decide +kernel
theorem d_Mo_followGrant_30 : decode b_Mo_followGrant 30 = .ok (.aload_n 0, 1) := by decide +kernel
theorem d_Mo_followGrant_31 : decode b_Mo_followGrant 31 = .ok (.getfield 38, 3) := by decide +kernel
theorem d_Mo_followGrant_34 : decode b_Mo_followGrant 34 = .ok (.iload_n 2, 1) := by decide +kernel
theorem d_Mo_followGrant_35 : decode b_Mo_followGrant 35 = .ok (.if_icmp .ne (10), 3) := by decide +kernel
theorem d_Mo_followGrant_38 : decode b_Mo_followGrant 38 = .ok (.aload_n 0, 1) := by decide +kernel
theorem d_Mo_followGrant_39 : decode b_Mo_followGrant 39 = .ok (.iconst (2), 1) := by decide +kernel
theorem d_Mo_followGrant_40 : decode b_Mo_followGrant 40 = .ok (.iload_n 3, 1) := by decide +kernel
theorem d_Mo_followGrant_41 : decode b_Mo_followGrant 41 = .ok (.iload_n 2, 1) := by decide +kernel
theorem d_Mo_followGrant_42 : decode b_Mo_followGrant 42 = .ok (.invokevirtual 47, 3) := by decide +kernel
theorem d_Mo_followGrant_45 : decode b_Mo_followGrant 45 = .ok (.return_, 1) := by decide +kernel
theorem d_Mo_obey_0 : decode b_Mo_obey 0 = .ok (.iload_n 1, 1) := by decide +kernel
theorem d_Mo_obey_1 : decode b_Mo_obey 1 = .ok (.invokestatic 92, 3) := by decide +kernel
theorem d_Mo_obey_4 : decode b_Mo_obey 4 = .ok (.aload_n 0, 1) := by decide +kernel
theorem d_Mo_obey_5 : decode b_Mo_obey 5 = .ok (.getfield 9, 3) := by decide +kernel
theorem d_Mo_obey_8 : decode b_Mo_obey 8 = .ok (.if_icmp .ne (7), 3) := by decide +kernel
theorem d_Mo_obey_11 : decode b_Mo_obey 11 = .ok (.iconst (1), 1) := by decide +kernel
theorem d_Mo_obey_12 : decode b_Mo_obey 12 = .ok (.goto (4), 3) := by decide +kernel
theorem d_Mo_obey_15 : decode b_Mo_obey 15 = .ok (.iconst (0), 1) := by decide +kernel
theorem d_Mo_obey_16 : decode b_Mo_obey 16 = .ok (.istore_n 3, 1) := by decide +kernel
theorem d_Mo_obey_17 : decode b_Mo_obey 17 = .ok (.iload_n 1, 1) := by decide +kernel
theorem d_Mo_obey_18 : decode b_Mo_obey 18 = .ok (.invokestatic 96, 3) := by decide +kernel
theorem d_Mo_obey_21 : decode b_Mo_obey 21 = .ok (.tableswitch (126) (8) (11) #[31, 55, 75, 93], 31) := by decide +kernel
theorem d_Mo_obey_52 : decode b_Mo_obey 52 = .ok (.iload_n 3, 1) := by decide +kernel
theorem d_Mo_obey_53 : decode b_Mo_obey 53 = .ok (.ifCond .eq (94), 3) := by decide +kernel
theorem d_Mo_obey_56 : decode b_Mo_obey 56 = .ok (.aload_n 0, 1) := by decide +kernel
theorem d_Mo_obey_57 : decode b_Mo_obey 57 = .ok (.getfield 18, 3) := by decide +kernel
theorem d_Mo_obey_60 : decode b_Mo_obey 60 = .ok (.getfield 76, 3) := by decide +kernel
theorem d_Mo_obey_63 : decode b_Mo_obey 63 = .ok (.ifCond .eq (84), 3) := by decide +kernel
theorem d_Mo_obey_66 : decode b_Mo_obey 66 = .ok (.aload_n 0, 1) := by decide +kernel
theorem d_Mo_obey_67 : decode b_Mo_obey 67 = .ok (.getfield 18, 3) := by decide +kernel
theorem d_Mo_obey_70 : decode b_Mo_obey 70 = .ok (.invokevirtual 83, 3) := by decide +kernel
theorem d_Mo_obey_73 : decode b_Mo_obey 73 = .ok (.goto (74), 3) := by decide +kernel
theorem d_Mo_obey_76 : decode b_Mo_obey 76 = .ok (.iload_n 2, 1) := by decide +kernel
theorem d_Mo_obey_77 : decode b_Mo_obey 77 = .ok (.ifCond .eq (70), 3) := by decide +kernel
theorem d_Mo_obey_80 : decode b_Mo_obey 80 = .ok (.aload_n 0, 1) := by decide +kernel
theorem d_Mo_obey_81 : decode b_Mo_obey 81 = .ok (.iload_n 3, 1) := by decide +kernel
theorem d_Mo_obey_82 : decode b_Mo_obey 82 = .ok (.iload_n 1, 1) := by decide +kernel
theorem d_Mo_obey_83 : decode b_Mo_obey 83 = .ok (.invokestatic 99, 3) := by decide +kernel
theorem d_Mo_obey_86 : decode b_Mo_obey 86 = .ok (.iload_n 1, 1) := by decide +kernel
theorem d_Mo_obey_87 : decode b_Mo_obey 87 = .ok (.invokestatic 102, 3) := by decide +kernel
theorem d_Mo_obey_90 : decode b_Mo_obey 90 = .ok (.invokevirtual 105, 3) := by decide +kernel
theorem d_Mo_obey_93 : decode b_Mo_obey 93 = .ok (.goto (54), 3) := by decide +kernel
theorem d_Mo_obey_96 : decode b_Mo_obey 96 = .ok (.aload_n 0, 1) := by decide +kernel
theorem d_Mo_obey_97 : decode b_Mo_obey 97 = .ok (.getfield 38, 3) := by decide +kernel
theorem d_Mo_obey_100 : decode b_Mo_obey 100 = .ok (.iload_n 1, 1) := by decide +kernel
theorem d_Mo_obey_101 : decode b_Mo_obey 101 = .ok (.invokestatic 99, 3) := by decide +kernel
theorem d_Mo_obey_104 : decode b_Mo_obey 104 = .ok (.if_icmp .ne (43), 3) := by decide +kernel
theorem d_Mo_obey_107 : decode b_Mo_obey 107 = .ok (.aload_n 0, 1) := by decide +kernel
theorem d_Mo_obey_108 : decode b_Mo_obey 108 = .ok (.invokevirtual 109, 3) := by decide +kernel
theorem d_Mo_obey_111 : decode b_Mo_obey 111 = .ok (.goto (36), 3) := by decide +kernel
theorem d_Mo_obey_114 : decode b_Mo_obey 114 = .ok (.iload_n 3, 1) := by decide +kernel
theorem d_Mo_obey_115 : decode b_Mo_obey 115 = .ok (.ifCond .eq (32), 3) := by decide +kernel
theorem d_Mo_obey_118 : decode b_Mo_obey 118 = .ok (.aload_n 0, 1) := by decide +kernel
theorem d_Mo_obey_119 : decode b_Mo_obey 119 = .ok (.dup, 1) := by decide +kernel
theorem d_Mo_obey_120 : decode b_Mo_obey 120 = .ok (.getfield 112, 3) := by decide +kernel
theorem d_Mo_obey_123 : decode b_Mo_obey 123 = .ok (.iconst (1), 1) := by decide +kernel
theorem d_Mo_obey_124 : decode b_Mo_obey 124 = .ok (.iadd, 1) := by decide +kernel
theorem d_Mo_obey_125 : decode b_Mo_obey 125 = .ok (.putfield 112, 3) := by decide +kernel
theorem d_Mo_obey_128 : decode b_Mo_obey 128 = .ok (.aload_n 0, 1) := by decide +kernel
theorem d_Mo_obey_129 : decode b_Mo_obey 129 = .ok (.bipush (16), 2) := by decide +kernel
theorem d_Mo_obey_131 : decode b_Mo_obey 131 = .ok (.iload_n 1, 1) := by decide +kernel
theorem d_Mo_obey_132 : decode b_Mo_obey 132 = .ok (.invokestatic 115, 3) := by decide +kernel
theorem d_Mo_obey_135 : decode b_Mo_obey 135 = .ok (.imul, 1) := by decide +kernel
theorem d_Mo_obey_136 : decode b_Mo_obey 136 = .ok (.iload_n 1, 1) := by decide +kernel
theorem d_Mo_obey_137 : decode b_Mo_obey 137 = .ok (.invokestatic 118, 3) := by decide +kernel
theorem d_Mo_obey_140 : decode b_Mo_obey 140 = .ok (.iadd, 1) := by decide +kernel
theorem d_Mo_obey_141 : decode b_Mo_obey 141 = .ok (.putfield 44, 3) := by decide +kernel
theorem d_Mo_obey_144 : decode b_Mo_obey 144 = .ok (.goto (3), 3) := by decide +kernel
theorem d_Mo_obey_147 : decode b_Mo_obey 147 = .ok (.return_, 1) := by decide +kernel
theorem d_Mo_trafficBlock_0 : decode b_Mo_trafficBlock 0 = .ok (.aload_n 0, 1) := by decide +kernel
theorem d_Mo_trafficBlock_1 : decode b_Mo_trafficBlock 1 = .ok (.getfield 29, 3) := by decide +kernel
theorem d_Mo_trafficBlock_4 : decode b_Mo_trafficBlock 4 = .ok (.aload_n 0, 1) := by decide +kernel
theorem d_Mo_trafficBlock_5 : decode b_Mo_trafficBlock 5 = .ok (.getfield 38, 3) := by decide +kernel
theorem d_Mo_trafficBlock_8 : decode b_Mo_trafficBlock 8 = .ok (.if_icmp .eq (10), 3) := by decide +kernel
theorem d_Mo_trafficBlock_11 : decode b_Mo_trafficBlock 11 = .ok (.aload_n 0, 1) := by decide +kernel
theorem d_Mo_trafficBlock_12 : decode b_Mo_trafficBlock 12 = .ok (.invokevirtual 109, 3) := by decide +kernel
theorem d_Mo_trafficBlock_15 : decode b_Mo_trafficBlock 15 = .ok (.ldc 121, 2) := by decide +kernel
theorem d_Mo_trafficBlock_17 : decode b_Mo_trafficBlock 17 = .ok (.ireturn, 1) := by decide +kernel
theorem d_Mo_trafficBlock_18 : decode b_Mo_trafficBlock 18 = .ok (.aload_n 0, 1) := by decide +kernel
theorem d_Mo_trafficBlock_19 : decode b_Mo_trafficBlock 19 = .ok (.getfield 122, 3) := by decide +kernel
theorem d_Mo_trafficBlock_22 : decode b_Mo_trafficBlock 22 = .ok (.iload_n 1, 1) := by decide +kernel
theorem d_Mo_trafficBlock_23 : decode b_Mo_trafficBlock 23 = .ok (.ldc 125, 2) := by decide +kernel
theorem d_Mo_trafficBlock_25 : decode b_Mo_trafficBlock 25 = .ok (.iand, 1) := by decide +kernel
theorem d_Mo_trafficBlock_26 : decode b_Mo_trafficBlock 26 = .ok (.ixor, 1) := by decide +kernel
theorem d_Mo_trafficBlock_27 : decode b_Mo_trafficBlock 27 = .ok (.ireturn, 1) := by decide +kernel
theorem d_Mo_hear_0 : decode b_Mo_hear 0 = .ok (.aload_n 0, 1) := by decide +kernel
theorem d_Mo_hear_1 : decode b_Mo_hear 1 = .ok (.dup, 1) := by decide +kernel
theorem d_Mo_hear_2 : decode b_Mo_hear 2 = .ok (.getfield 126, 3) := by decide +kernel
theorem d_Mo_hear_5 : decode b_Mo_hear 5 = .ok (.iconst (1), 1) := by decide +kernel
theorem d_Mo_hear_6 : decode b_Mo_hear 6 = .ok (.iadd, 1) := by decide +kernel
theorem d_Mo_hear_7 : decode b_Mo_hear 7 = .ok (.putfield 126, 3) := by decide +kernel
theorem d_Mo_hear_10 : decode b_Mo_hear 10 = .ok (.aload_n 0, 1) := by decide +kernel
theorem d_Mo_hear_11 : decode b_Mo_hear 11 = .ok (.iload_n 1, 1) := by decide +kernel
theorem d_Mo_hear_12 : decode b_Mo_hear 12 = .ok (.iload_n 2, 1) := by decide +kernel
theorem d_Mo_hear_13 : decode b_Mo_hear 13 = .ok (.ixor, 1) := by decide +kernel
theorem d_Mo_hear_14 : decode b_Mo_hear 14 = .ok (.ldc 125, 2) := by decide +kernel
theorem d_Mo_hear_16 : decode b_Mo_hear 16 = .ok (.iand, 1) := by decide +kernel
theorem d_Mo_hear_17 : decode b_Mo_hear 17 = .ok (.putfield 41, 3) := by decide +kernel
theorem d_Mo_hear_20 : decode b_Mo_hear 20 = .ok (.return_, 1) := by decide +kernel
theorem d_Mo_tell_0 : decode b_Mo_tell 0 = .ok (.iload_n 1, 1) := by decide +kernel
theorem d_Mo_tell_1 : decode b_Mo_tell 1 = .ok (.tableswitch (141) (0) (12) #[67, 72, 77, 82, 87, 92, 100, 108, 116, 121, 126, 131, 136], 67) := by decide +kernel
theorem d_Mo_tell_68 : decode b_Mo_tell 68 = .ok (.aload_n 0, 1) := by decide +kernel
theorem d_Mo_tell_69 : decode b_Mo_tell 69 = .ok (.getfield 26, 3) := by decide +kernel
theorem d_Mo_tell_72 : decode b_Mo_tell 72 = .ok (.ireturn, 1) := by decide +kernel
theorem d_Mo_tell_73 : decode b_Mo_tell 73 = .ok (.aload_n 0, 1) := by decide +kernel
theorem d_Mo_tell_74 : decode b_Mo_tell 74 = .ok (.getfield 32, 3) := by decide +kernel
theorem d_Mo_tell_77 : decode b_Mo_tell 77 = .ok (.ireturn, 1) := by decide +kernel
theorem d_Mo_tell_78 : decode b_Mo_tell 78 = .ok (.aload_n 0, 1) := by decide +kernel
theorem d_Mo_tell_79 : decode b_Mo_tell 79 = .ok (.getfield 35, 3) := by decide +kernel
theorem d_Mo_tell_82 : decode b_Mo_tell 82 = .ok (.ireturn, 1) := by decide +kernel
theorem d_Mo_tell_83 : decode b_Mo_tell 83 = .ok (.aload_n 0, 1) := by decide +kernel
theorem d_Mo_tell_84 : decode b_Mo_tell 84 = .ok (.getfield 38, 3) := by decide +kernel
theorem d_Mo_tell_87 : decode b_Mo_tell 87 = .ok (.ireturn, 1) := by decide +kernel
theorem d_Mo_tell_88 : decode b_Mo_tell 88 = .ok (.aload_n 0, 1) := by decide +kernel
theorem d_Mo_tell_89 : decode b_Mo_tell 89 = .ok (.getfield 29, 3) := by decide +kernel
theorem d_Mo_tell_92 : decode b_Mo_tell 92 = .ok (.ireturn, 1) := by decide +kernel
theorem d_Mo_tell_93 : decode b_Mo_tell 93 = .ok (.aload_n 0, 1) := by decide +kernel
theorem d_Mo_tell_94 : decode b_Mo_tell 94 = .ok (.getfield 18, 3) := by decide +kernel
theorem d_Mo_tell_97 : decode b_Mo_tell 97 = .ok (.invokevirtual 60, 3) := by decide +kernel
theorem d_Mo_tell_100 : decode b_Mo_tell 100 = .ok (.ireturn, 1) := by decide +kernel
theorem d_Mo_tell_101 : decode b_Mo_tell 101 = .ok (.aload_n 0, 1) := by decide +kernel
theorem d_Mo_tell_102 : decode b_Mo_tell 102 = .ok (.getfield 18, 3) := by decide +kernel
theorem d_Mo_tell_105 : decode b_Mo_tell 105 = .ok (.getfield 80, 3) := by decide +kernel
theorem d_Mo_tell_108 : decode b_Mo_tell 108 = .ok (.ireturn, 1) := by decide +kernel
theorem d_Mo_tell_109 : decode b_Mo_tell 109 = .ok (.aload_n 0, 1) := by decide +kernel
theorem d_Mo_tell_110 : decode b_Mo_tell 110 = .ok (.getfield 18, 3) := by decide +kernel
theorem d_Mo_tell_113 : decode b_Mo_tell 113 = .ok (.getfield 89, 3) := by decide +kernel
theorem d_Mo_tell_116 : decode b_Mo_tell 116 = .ok (.ireturn, 1) := by decide +kernel
theorem d_Mo_tell_117 : decode b_Mo_tell 117 = .ok (.aload_n 0, 1) := by decide +kernel
theorem d_Mo_tell_118 : decode b_Mo_tell 118 = .ok (.getfield 126, 3) := by decide +kernel
theorem d_Mo_tell_121 : decode b_Mo_tell 121 = .ok (.ireturn, 1) := by decide +kernel
theorem d_Mo_tell_122 : decode b_Mo_tell 122 = .ok (.aload_n 0, 1) := by decide +kernel
theorem d_Mo_tell_123 : decode b_Mo_tell 123 = .ok (.getfield 41, 3) := by decide +kernel
theorem d_Mo_tell_126 : decode b_Mo_tell 126 = .ok (.ireturn, 1) := by decide +kernel
theorem d_Mo_tell_127 : decode b_Mo_tell 127 = .ok (.aload_n 0, 1) := by decide +kernel
theorem d_Mo_tell_128 : decode b_Mo_tell 128 = .ok (.getfield 112, 3) := by decide +kernel
theorem d_Mo_tell_131 : decode b_Mo_tell 131 = .ok (.ireturn, 1) := by decide +kernel
theorem d_Mo_tell_132 : decode b_Mo_tell 132 = .ok (.aload_n 0, 1) := by decide +kernel
theorem d_Mo_tell_133 : decode b_Mo_tell 133 = .ok (.getfield 44, 3) := by decide +kernel
theorem d_Mo_tell_136 : decode b_Mo_tell 136 = .ok (.ireturn, 1) := by decide +kernel
theorem d_Mo_tell_137 : decode b_Mo_tell 137 = .ok (.aload_n 0, 1) := by decide +kernel
theorem d_Mo_tell_138 : decode b_Mo_tell 138 = .ok (.getfield 51, 3) := by decide +kernel
theorem d_Mo_tell_141 : decode b_Mo_tell 141 = .ok (.ireturn, 1) := by decide +kernel
theorem d_Mo_tell_142 : decode b_Mo_tell 142 = .ok (.iconst (-1), 1) := by decide +kernel
theorem d_Mo_tell_143 : decode b_Mo_tell 143 = .ok (.ireturn, 1) := by decide +kernel
def p_Mo_join (a0 : Nat) (p1 : Int32) (p2 : Int32) (p3 : Int32) (post : SI → SJ → Prop) (I : SI) (J : SJ) : Prop :=
  ∀ I1, I1 = xu I (14 + a0) 8 p1 → ∀ I2, I2 = xu I1 (14 + a0) 9 p2 → ∀ I3, I3 = xu I2 (14 + a0) 10 p3 → post I3 J
abbrev rm_Mo_join : Room := { frames := 0, cells := 0, slots := 0, locals := 0 }
def p_Mo_turnIdle (a0 : Nat) (post : SI → SJ → Prop) (I : SI) (J : SJ) : Prop :=
  p_Mo_join a0 (0 : Int32) (-1 : Int32) (-1 : Int32) (fun I1 J2 => post I1 J2) I J
abbrev rm_Mo_turnIdle : Room := { frames := 1, cells := 0, slots := 0, locals := 23 }
def p_Mo_isOn_20 (a0 : Nat) (p1 : Int32) (p2 : Int32) (post : Int32 → SI → SJ → Prop) (I : SI) (J : SJ) : Prop :=
  post (0 : Int32) I J
def p_Mo_isOn (a0 : Nat) (p1 : Int32) (p2 : Int32) (post : Int32 → SI → SJ → Prop) (I : SI) (J : SJ) : Prop :=
  ((¬ (I (14 + a0) 8) = p2 → p_Mo_isOn_20 a0 p1 p2 post I J) ∧ ((I (14 + a0) 8) = p2 → ((¬ (I (14 + a0) 9) = p1 → p_Mo_isOn_20 a0 p1 p2 post I J) ∧ ((I (14 + a0) 9) = p1 → post (1 : Int32) I J))))
abbrev rm_Mo_isOn : Room := { frames := 0, cells := 0, slots := 0, locals := 0 }
def p_Mo_addDraw (a0 : Nat) (p1 : Int32) (post : Int32 → SI → SJ → Prop) (I : SI) (J : SJ) : Prop :=
  (((I (14 + a0) 3) < (8 : Int32) → ∃ j1, I (14 + a0) 3 = nI j1 ∧ j1 < 8 ∧ ∀ I2, I2 = xu I (30 + a0) j1 p1 → ∀ I3, I3 = xu I2 (14 + a0) 3 ((I2 (14 + a0) 3) + (1 : Int32)) → post (1 : Int32) I3 J) ∧ (¬ (I (14 + a0) 3) < (8 : Int32) → post (0 : Int32) I J))
abbrev rm_Mo_addDraw : Room := { frames := 0, cells := 0, slots := 0, locals := 0 }
def p_Mo_takeDraw (a0 : Nat) (post : Int32 → SI → SJ → Prop) (I : SI) (J : SJ) : Prop :=
  ((¬ (I (14 + a0) 3) = (0) → ∀ x1, x1 = I (30 + a0) 0 → ∀ I2, I2 = xu I (14 + a0) 3 ((I (14 + a0) 3) - (1 : Int32)) → ∃ j3 j4 j5, (1 : Int32) = nI j3 ∧ (0 : Int32) = nI j4 ∧ I2 (14 + a0) 3 = nI j5 ∧ j3 + j5 ≤ 8 ∧ j4 + j5 ≤ 8 ∧ ∀ I6, I6 = xr I2 (30 + a0) (va_cpy (I2 (30 + a0)) (I2 (30 + a0)) j3 j4 j5) → post x1 I6 J) ∧ ((I (14 + a0) 3) = (0) → post (1 : Int32) I J))
abbrev rm_Mo_takeDraw : Room := { frames := 1, cells := 0, slots := 0, locals := 18 }
def p_Mo_messageBlock (a0 : Nat) (p1 : Int32) (post : Int32 → SI → SJ → Prop) (I : SI) (J : SJ) : Prop :=
  p_Me_kind a0 (fun r3 I1 J2 => ((¬ r3 = (1 : Int32) → post (I1 (22 + a0) 0) I1 J2) ∧ (r3 = (1 : Int32) → p_TC_mix (I1 (14 + a0) 4) p1 (fun r6 I4 J5 => post ((I1 (22 + a0) 0) ||| (r6 &&& (511 : Int32))) I4 J5) I1 J2))) I J
abbrev rm_Mo_messageBlock : Room := { frames := 2, cells := 0, slots := 0, locals := 40 }
def p_Mo_settleMessage (a0 : Nat) (post : SI → SJ → Prop) (I : SI) (J : SJ) : Prop :=
  ((¬ (I (22 + a0) 3) = (0) → ∀ I1, I1 = xu I (22 + a0) 1 ((I (22 + a0) 1) + (1 : Int32)) → (((I1 (22 + a0) 1) < (5 : Int32) → p_Mo_takeDraw a0 (fun r4 I2 J3 => ∀ I5, I5 = xu I2 (22 + a0) 2 r4 → post I5 J3) I1 J) ∧ (¬ (I1 (22 + a0) 1) < (5 : Int32) → p_Me_drop a0 (fun I6 J7 => post I6 J7) I1 J))) ∧ ((I (22 + a0) 3) = (0) → post I J))
abbrev rm_Mo_settleMessage : Room := { frames := 2, cells := 0, slots := 0, locals := 41 }
def p_Mo_followGrant_38 (a0 : Nat) (p1 : Int32) (p2 : Int32) (p3 : Int32) (post : SI → SJ → Prop) (I : SI) (J : SJ) : Prop :=
  p_Mo_join a0 (2 : Int32) p3 p2 (fun I1 J2 => post I1 J2) I J
def p_Mo_followGrant_22 (a0 : Nat) (p1 : Int32) (p2 : Int32) (p3 : Int32) (post : SI → SJ → Prop) (I : SI) (J : SJ) : Prop :=
  ((¬ (I (14 + a0) 8) = (1 : Int32) → p_Mo_followGrant_38 a0 p1 p2 p3 post I J) ∧ ((I (14 + a0) 8) = (1 : Int32) → ((¬ (I (14 + a0) 10) = p2 → post I J) ∧ ((I (14 + a0) 10) = p2 → p_Mo_followGrant_38 a0 p1 p2 p3 post I J))))
def p_Mo_followGrant (a0 : Nat) (p1 : Int32) (p2 : Int32) (p3 : Int32) (post : SI → SJ → Prop) (I : SI) (J : SJ) : Prop :=
  ((p1 = (0) → p_Mo_followGrant_22 a0 p1 p2 p3 post I J) ∧ (¬ p1 = (0) → ((¬ (I (14 + a0) 7) = p2 → p_Mo_followGrant_22 a0 p1 p2 p3 post I J) ∧ ((I (14 + a0) 7) = p2 → p_Mo_join a0 (1 : Int32) p3 p2 (fun I5 J6 => post I5 J6) I J))))
abbrev rm_Mo_followGrant : Room := { frames := 1, cells := 0, slots := 0, locals := 23 }
def p_Mo_obey_16 (a0 : Nat) (p1 : Int32) (p2 : Int32) (post : SI → SJ → Prop) (s0 : Int32) (I : SI) (J : SJ) : Prop :=
  p_Bk_kindOf p1 (fun r6 I4 J5 => ((r6 = (8 : Int32) → ((s0 = (0) → post I4 J5) ∧ (¬ s0 = (0) → (((I4 (22 + a0) 3) = (0) → post I4 J5) ∧ (¬ (I4 (22 + a0) 3) = (0) → p_Me_drop a0 (fun I7 J8 => post I7 J8) I4 J5))))) ∧ (¬ r6 = (8 : Int32) → ((r6 = (9 : Int32) → ((p2 = (0) → post I4 J5) ∧ (¬ p2 = (0) → p_Bk_groupOf p1 (fun r14 I12 J13 => p_Bk_levelOf p1 (fun r17 I15 J16 => p_Mo_followGrant a0 s0 r14 r17 (fun I18 J19 => post I18 J19) I15 J16) I12 J13) I4 J5))) ∧ (¬ r6 = (9 : Int32) → ((r6 = (10 : Int32) → p_Bk_groupOf p1 (fun r24 I22 J23 => ((¬ (I4 (14 + a0) 10) = r24 → post I22 J23) ∧ ((I4 (14 + a0) 10) = r24 → p_Mo_turnIdle a0 (fun I25 J26 => post I25 J26) I22 J23))) I4 J5) ∧ (¬ r6 = (10 : Int32) → ((r6 = (11 : Int32) → ((s0 = (0) → post I4 J5) ∧ (¬ s0 = (0) → ∀ I29, I29 = xu I4 (14 + a0) 13 ((I4 (14 + a0) 13) + (1 : Int32)) → p_Bk_restOf p1 (fun r32 I30 J31 => p_Bk_otherOf p1 (fun r35 I33 J34 => ∀ I36, I36 = xu I33 (14 + a0) 14 (((16 : Int32) * r32) + r35) → post I36 J34) I30 J31) I29 J5))) ∧ (¬ r6 = (11 : Int32) → post I4 J5))))))))) I J
def p_Mo_obey (a0 : Nat) (p1 : Int32) (p2 : Int32) (post : SI → SJ → Prop) (I : SI) (J : SJ) : Prop :=
  p_Bk_mobileOf p1 (fun r3 I1 J2 => ((¬ r3 = (I1 (14 + a0) 0) → p_Mo_obey_16 a0 p1 p2 post (0 : Int32) I1 J2) ∧ (r3 = (I1 (14 + a0) 0) → p_Mo_obey_16 a0 p1 p2 post (1 : Int32) I1 J2))) I J
abbrev rm_Mo_obey : Room := { frames := 2, cells := 0, slots := 0, locals := 46 }
def p_Mo_trafficBlock (a0 : Nat) (p1 : Int32) (post : Int32 → SI → SJ → Prop) (I : SI) (J : SJ) : Prop :=
  (((I (14 + a0) 7) = (I (14 + a0) 10) → post ((I (14 + a0) 5) ^^^ (p1 &&& (524287 : Int32))) I J) ∧ (¬ (I (14 + a0) 7) = (I (14 + a0) 10) → p_Mo_turnIdle a0 (fun I1 J2 => post (524288 : Int32) I1 J2) I J))
abbrev rm_Mo_trafficBlock : Room := { frames := 2, cells := 0, slots := 0, locals := 43 }
def p_Mo_hear (a0 : Nat) (p1 : Int32) (p2 : Int32) (post : SI → SJ → Prop) (I : SI) (J : SJ) : Prop :=
  ∀ I1, I1 = xu I (14 + a0) 11 ((I (14 + a0) 11) + (1 : Int32)) → ∀ I2, I2 = xu I1 (14 + a0) 12 ((p1 ^^^ p2) &&& (524287 : Int32)) → post I2 J
abbrev rm_Mo_hear : Room := { frames := 0, cells := 0, slots := 0, locals := 0 }
def p_Mo_tell (a0 : Nat) (p1 : Int32) (post : Int32 → SI → SJ → Prop) (I : SI) (J : SJ) : Prop :=
  ((p1 = (0 : Int32) → post (I (14 + a0) 6) I J) ∧ (¬ p1 = (0 : Int32) → ((p1 = (1 : Int32) → post (I (14 + a0) 8) I J) ∧ (¬ p1 = (1 : Int32) → ((p1 = (2 : Int32) → post (I (14 + a0) 9) I J) ∧ (¬ p1 = (2 : Int32) → ((p1 = (3 : Int32) → post (I (14 + a0) 10) I J) ∧ (¬ p1 = (3 : Int32) → ((p1 = (4 : Int32) → post (I (14 + a0) 7) I J) ∧ (¬ p1 = (4 : Int32) → ((p1 = (5 : Int32) → p_Me_kind a0 (fun r8 I6 J7 => post r8 I6 J7) I J) ∧ (¬ p1 = (5 : Int32) → ((p1 = (6 : Int32) → post (I (22 + a0) 1) I J) ∧ (¬ p1 = (6 : Int32) → ((p1 = (7 : Int32) → post (I (22 + a0) 2) I J) ∧ (¬ p1 = (7 : Int32) → ((p1 = (8 : Int32) → post (I (14 + a0) 11) I J) ∧ (¬ p1 = (8 : Int32) → ((p1 = (9 : Int32) → post (I (14 + a0) 12) I J) ∧ (¬ p1 = (9 : Int32) → ((p1 = (10 : Int32) → post (I (14 + a0) 13) I J) ∧ (¬ p1 = (10 : Int32) → ((p1 = (11 : Int32) → post (I (14 + a0) 14) I J) ∧ (¬ p1 = (11 : Int32) → ((p1 = (12 : Int32) → post (I (14 + a0) 3) I J) ∧ (¬ p1 = (12 : Int32) → post (-1 : Int32) I J))))))))))))))))))))))))))
abbrev rm_Mo_tell : Room := { frames := 2, cells := 0, slots := 0, locals := 40 }
set_option maxHeartbeats 4000000 in
set_option maxRecDepth 100000 in
theorem c_Mo_join (l : Launch) (D : va_G) (κ : Nat → ClassId) {Θ : Nat → Nat} (hΘ : xJ 52 Θ) (sz : Nat) (a0 : Nat) (h_a0 : a0 < 8) (p1 : Int32) (p2 : Int32) (p3 : Int32) (I : SI) (J : SJ) (post : SI → SJ → Prop) (h : p_Mo_join a0 p1 p2 p3 post I J) : Met l y_Mo_join WS rm_Mo_join (va_Pc [.ref (Θ (14 + a0)), .int p1, .int p2, .int p3] (xPR D clA (tysA κ) 52 Θ (eC Θ κ) sz I J)) (xQv D clA 52 Θ (eC Θ κ) sz post) 0 0 (xA 52 Θ sz) := by
  refine xMet (cc := b_Mo_join) (maxL := 4) (ret := none) (by decide) q_Mo_join.1 ?_
  intro p e s m args below meth c s₁ B hml hv
  obtain ⟨hargs, hsz, hP, hK, hN, hG⟩ := hv
  have hx := B.exec
  have hb := B.bytes
  have hr := B.returns
  have hlocks := B.notSynchronized
  have hts := atoms_spec (ws := WS) B.pre
  have hown : s.vm.findClass R_Mo = some m.cls := findClass_of_methodNamed B.named
  have C : xC p m c b_Mo_join 4 s args R_Mo D clA (tysA κ) 52 Θ sz := ⟨⟨hx, hb, hml, hown, hts⟩, hK, hN, hG, hsz⟩
  have hS : va_S (xA 52 Θ sz) s.heap s.heap [] := va_S.rf
  have hE := lg_entry_eq m [.ref (Θ (14 + a0)), .int p1, .int p2, .int p3] 4
  rw [← hargs] at hE
  rw [hE]
  have hl := lv_entry [.ref (Θ (14 + a0)), .int p1, .int p2, .int p3] (n := 4) (Nat.le_of_ble_eq_true rfl)
  generalize (lg_sl [.ref (Θ (14 + a0)), .int p1, .int p2, .int p3] ++ List.replicate (4 - (lg_sl [.ref (Θ (14 + a0)), .int p1, .int p2, .int p3]).length) Slot.unset).toArray = ls at hl ⊢
  have hl : lv_has ls 4 [(0, .ref (Θ (14 + a0))), (1, .int p1), (2, .int p2), (3, .int p3)] := hl
  unfold p_Mo_join at h
  refine lv_aload_n hx hb d_Mo_join_0 rfl (lv_at hl 0 rfl) ?_
  refine lv_iload_n hx hb d_Mo_join_1 rfl (lv_at hl 1 rfl) ?_
  refine pfC_Mo_32 C hΘ hP hS h_a0 d_Mo_join_2 (fun H locs hP hS => ?_)
  obtain ⟨I1, eI1⟩ : ∃ y, y = xu I (14 + a0) 8 p1 := ⟨_, rfl⟩
  have hP : va_P D clA (xw 52 Θ (eC Θ κ) I1 J) H := by rw [eI1]; exact hP
  have h := h I1 eI1
  refine lv_aload_n hx hb d_Mo_join_5 rfl (lv_at hl 0 rfl) ?_
  refine lv_iload_n hx hb d_Mo_join_6 rfl (lv_at hl 2 rfl) ?_
  refine pfC_Mo_35 C hΘ hP hS h_a0 d_Mo_join_7 (fun H locs hP hS => ?_)
  obtain ⟨I2, eI2⟩ : ∃ y, y = xu I1 (14 + a0) 9 p2 := ⟨_, rfl⟩
  have hP : va_P D clA (xw 52 Θ (eC Θ κ) I2 J) H := by rw [eI2]; exact hP
  have h := h I2 eI2
  refine lv_aload_n hx hb d_Mo_join_10 rfl (lv_at hl 0 rfl) ?_
  refine lv_iload_n hx hb d_Mo_join_11 rfl (lv_at hl 3 rfl) ?_
  refine pfC_Mo_38 C hΘ hP hS h_a0 d_Mo_join_12 (fun H locs hP hS => ?_)
  obtain ⟨I3, eI3⟩ : ∃ y, y = xu I2 (14 + a0) 10 p3 := ⟨_, rfl⟩
  have hP : va_P D clA (xw 52 Θ (eC Θ κ) I3 J) H := by rw [eI3]; exact hP
  have h := h I3 eI3
  exact x_vret hx hb hr hlocks hP hS h d_Mo_join_15
set_option maxHeartbeats 4000000 in
set_option maxRecDepth 100000 in
theorem c_Mo_turnIdle (l : Launch) (D : va_G) (κ : Nat → ClassId) {Θ : Nat → Nat} (hΘ : xJ 52 Θ) (sz : Nat) (a0 : Nat) (h_a0 : a0 < 8) (I : SI) (J : SJ) (post : SI → SJ → Prop) (h : p_Mo_turnIdle a0 post I J) : Met l y_Mo_turnIdle WS rm_Mo_turnIdle (va_Pc [.ref (Θ (14 + a0))] (xPR D clA (tysA κ) 52 Θ (eC Θ κ) sz I J)) (xQv D clA 52 Θ (eC Θ κ) sz post) 0 0 (xA 52 Θ sz) := by
  refine xMet (cc := b_Mo_turnIdle) (maxL := 1) (ret := none) (by decide) q_Mo_turnIdle.1 ?_
  intro p e s m args below meth c s₁ B hml hv
  obtain ⟨hargs, hsz, hP, hK, hN, hG⟩ := hv
  have hx := B.exec
  have hb := B.bytes
  have hr := B.returns
  have hlocks := B.notSynchronized
  have hts := atoms_spec (ws := WS) B.pre
  have hown : s.vm.findClass R_Mo = some m.cls := findClass_of_methodNamed B.named
  have C : xC p m c b_Mo_turnIdle 1 s args R_Mo D clA (tysA κ) 52 Θ sz := ⟨⟨hx, hb, hml, hown, hts⟩, hK, hN, hG, hsz⟩
  have hS : va_S (xA 52 Θ sz) s.heap s.heap [] := va_S.rf
  have hE := lg_entry_eq m [.ref (Θ (14 + a0))] 1
  rw [← hargs] at hE
  rw [hE]
  have hl := lv_entry [.ref (Θ (14 + a0))] (n := 1) (Nat.le_of_ble_eq_true rfl)
  generalize (lg_sl [.ref (Θ (14 + a0))] ++ List.replicate (1 - (lg_sl [.ref (Θ (14 + a0))]).length) Slot.unset).toArray = ls at hl ⊢
  have hl : lv_has ls 1 [(0, .ref (Θ (14 + a0)))] := hl
  unfold p_Mo_turnIdle at h
  refine lv_aload_n hx hb d_Mo_turnIdle_0 rfl (lv_at hl 0 rfl) ?_
  refine lv_iconst (v := (0 : Int32)) hx hb d_Mo_turnIdle_1 (by decide) ?_
  refine lv_iconst (v := (-1 : Int32)) hx hb d_Mo_turnIdle_2 (by decide) ?_
  refine lv_iconst (v := (-1 : Int32)) hx hb d_Mo_turnIdle_3 (by decide) ?_
  refine x_gv (x_V C hP hS (xlt h_a0 rfl) ((eC_Mo h_a0) _ _) rfl (c_Mo_join l D κ hΘ sz a0 h_a0 (0 : Int32) (-1 : Int32) (-1 : Int32) I J _ h) q_Mo_join k_444 sel_Mo_join k_442 rfl rfl ⟨Nat.le_of_ble_eq_true rfl, Nat.le_of_ble_eq_true rfl⟩ rfl hl.1 rfl (Nat.le_of_ble_eq_true rfl) d_Mo_turnIdle_4) hS (fun I1 J2 h H locs hP hS => ?_)
  exact x_vret hx hb hr hlocks hP hS h d_Mo_turnIdle_7
set_option maxHeartbeats 4000000 in
set_option maxRecDepth 100000 in
theorem c_Mo_isOn (l : Launch) (D : va_G) (κ : Nat → ClassId) {Θ : Nat → Nat} (hΘ : xJ 52 Θ) (sz : Nat) (a0 : Nat) (h_a0 : a0 < 8) (p1 : Int32) (p2 : Int32) (I : SI) (J : SJ) (post : Int32 → SI → SJ → Prop) (h : p_Mo_isOn a0 p1 p2 post I J) : Met l y_Mo_isOn WS rm_Mo_isOn (va_Pc [.ref (Θ (14 + a0)), .int p1, .int p2] (xPR D clA (tysA κ) 52 Θ (eC Θ κ) sz I J)) (xQi D clA 52 Θ (eC Θ κ) sz post) 0 0 (xA 52 Θ sz) := by
  refine xMet (cc := b_Mo_isOn) (maxL := 3) (ret := (some .boolean)) (by decide) q_Mo_isOn.1 ?_
  intro p e s m args below meth c s₁ B hml hv
  obtain ⟨hargs, hsz, hP, hK, hN, hG⟩ := hv
  have hx := B.exec
  have hb := B.bytes
  have hr := B.returns
  have hlocks := B.notSynchronized
  have hts := atoms_spec (ws := WS) B.pre
  have hown : s.vm.findClass R_Mo = some m.cls := findClass_of_methodNamed B.named
  have C : xC p m c b_Mo_isOn 3 s args R_Mo D clA (tysA κ) 52 Θ sz := ⟨⟨hx, hb, hml, hown, hts⟩, hK, hN, hG, hsz⟩
  have hS : va_S (xA 52 Θ sz) s.heap s.heap [] := va_S.rf
  have tJ20 : ∀ (I : SI) (J : SJ), p_Mo_isOn_20 a0 p1 p2 post I J → ∀ (H : Heap) (locs : List Loc) (ls : Array Slot), lv_has ls 3 [] → va_P D clA (xw 52 Θ (eC Θ κ) I J) H → va_S (xA 52 Θ sz) s.heap H locs → W p l e (headSpec WS rm_Mo_isOn).room s m args below meth c H locs 0 0 (MQ below (xQi D clA 52 Θ (eC Θ κ) sz post) args s 0 0 (xA 52 Θ sz)) (F0 m 20 ls []) := by
    intro I J h H locs ls hl hP hS
    unfold p_Mo_isOn_20 at h
    refine lv_iconst (v := (0 : Int32)) hx hb d_Mo_isOn_20 (by decide) ?_
    exact x_zret hx hb hr hlocks hP hS (by decide) h d_Mo_isOn_21
  have hE := lg_entry_eq m [.ref (Θ (14 + a0)), .int p1, .int p2] 3
  rw [← hargs] at hE
  rw [hE]
  have hl := lv_entry [.ref (Θ (14 + a0)), .int p1, .int p2] (n := 3) (Nat.le_of_ble_eq_true rfl)
  generalize (lg_sl [.ref (Θ (14 + a0)), .int p1, .int p2] ++ List.replicate (3 - (lg_sl [.ref (Θ (14 + a0)), .int p1, .int p2]).length) Slot.unset).toArray = ls at hl ⊢
  have hl : lv_has ls 3 [(0, .ref (Θ (14 + a0))), (1, .int p1), (2, .int p2)] := hl
  unfold p_Mo_isOn at h
  refine lv_aload_n hx hb d_Mo_isOn_0 rfl (lv_at hl 0 rfl) ?_
  refine gfC_Mo_32 C hP h_a0 d_Mo_isOn_1 ?_
  refine lv_iload_n hx hb d_Mo_isOn_4 rfl (lv_at hl 2 rfl) ?_
  refine lv_icmp_ne hx hb d_Mo_isOn_5 (tgt := 20) rfl (fun hc2 => ?_) (fun hc2 => ?_)
  · have h := h.1 hc2
    exact tJ20 _ _ h _ _ _ (lv_sub hl [] rfl) hP hS
  · have h := h.2 hc2
    refine lv_aload_n hx hb d_Mo_isOn_8 rfl (lv_at hl 0 rfl) ?_
    refine gfC_Mo_35 C hP h_a0 d_Mo_isOn_9 ?_
    refine lv_iload_n hx hb d_Mo_isOn_12 rfl (lv_at hl 1 rfl) ?_
    refine lv_icmp_ne hx hb d_Mo_isOn_13 (tgt := 20) rfl (fun hc1 => ?_) (fun hc1 => ?_)
    · have h := h.1 hc1
      exact tJ20 _ _ h _ _ _ (lv_sub hl [] rfl) hP hS
    · have h := h.2 hc1
      refine lv_iconst (v := (1 : Int32)) hx hb d_Mo_isOn_16 (by decide) ?_
      refine lv_goto hx hb d_Mo_isOn_17 (tgt := 21) rfl ?_
      exact x_zret hx hb hr hlocks hP hS (by decide) h d_Mo_isOn_21
set_option maxHeartbeats 4000000 in
set_option maxRecDepth 100000 in
theorem c_Mo_addDraw (l : Launch) (D : va_G) (κ : Nat → ClassId) {Θ : Nat → Nat} (hΘ : xJ 52 Θ) (sz : Nat) (a0 : Nat) (h_a0 : a0 < 8) (p1 : Int32) (I : SI) (J : SJ) (post : Int32 → SI → SJ → Prop) (h : p_Mo_addDraw a0 p1 post I J) : Met l y_Mo_addDraw WS rm_Mo_addDraw (va_Pc [.ref (Θ (14 + a0)), .int p1] (xPR D clA (tysA κ) 52 Θ (eC Θ κ) sz I J)) (xQi D clA 52 Θ (eC Θ κ) sz post) 0 0 (xA 52 Θ sz) := by
  refine xMet (cc := b_Mo_addDraw) (maxL := 2) (ret := (some .boolean)) (by decide) q_Mo_addDraw.1 ?_
  intro p e s m args below meth c s₁ B hml hv
  obtain ⟨hargs, hsz, hP, hK, hN, hG⟩ := hv
  have hx := B.exec
  have hb := B.bytes
  have hr := B.returns
  have hlocks := B.notSynchronized
  have hts := atoms_spec (ws := WS) B.pre
  have hown : s.vm.findClass R_Mo = some m.cls := findClass_of_methodNamed B.named
  have C : xC p m c b_Mo_addDraw 2 s args R_Mo D clA (tysA κ) 52 Θ sz := ⟨⟨hx, hb, hml, hown, hts⟩, hK, hN, hG, hsz⟩
  have hS : va_S (xA 52 Θ sz) s.heap s.heap [] := va_S.rf
  have hE := lg_entry_eq m [.ref (Θ (14 + a0)), .int p1] 2
  rw [← hargs] at hE
  rw [hE]
  have hl := lv_entry [.ref (Θ (14 + a0)), .int p1] (n := 2) (Nat.le_of_ble_eq_true rfl)
  generalize (lg_sl [.ref (Θ (14 + a0)), .int p1] ++ List.replicate (2 - (lg_sl [.ref (Θ (14 + a0)), .int p1]).length) Slot.unset).toArray = ls at hl ⊢
  have hl : lv_has ls 2 [(0, .ref (Θ (14 + a0))), (1, .int p1)] := hl
  unfold p_Mo_addDraw at h
  refine lv_aload_n hx hb d_Mo_addDraw_0 rfl (lv_at hl 0 rfl) ?_
  refine gfC_Mo_51 C hP h_a0 d_Mo_addDraw_1 ?_
  refine lv_bipush (v := (8 : Int32)) hx hb d_Mo_addDraw_4 (by decide) ?_
  refine lv_icmp_lt hx hb d_Mo_addDraw_6 (tgt := 11) rfl (fun hc4 => ?_) (fun hc4 => ?_)
  · have h := h.1 hc4
    refine lv_aload_n hx hb d_Mo_addDraw_11 rfl (lv_at hl 0 rfl) ?_
    refine gfC_Mo_22 C hP h_a0 d_Mo_addDraw_12 ?_
    refine lv_aload_n hx hb d_Mo_addDraw_15 rfl (lv_at hl 0 rfl) ?_
    refine gfC_Mo_51 C hP h_a0 d_Mo_addDraw_16 ?_
    refine lv_iload_n hx hb d_Mo_addDraw_19 rfl (lv_at hl 1 rfl) ?_
    obtain ⟨j1, ej1, h_j1, h⟩ := h
    refine x_iast hx hb hK hΘ hP hS (30 + a0) 0 (xlt h_a0 rfl) (eC_draws h_a0) rfl ej1 h_j1 (by decide) d_Mo_addDraw_20 (fun H locs hP hS => ?_)
    obtain ⟨I2, eI2⟩ : ∃ y, y = xu I (30 + a0) j1 p1 := ⟨_, rfl⟩
    have hP : va_P D clA (xw 52 Θ (eC Θ κ) I2 J) H := by rw [eI2]; exact hP
    have h := h I2 eI2
    refine lv_aload_n hx hb d_Mo_addDraw_21 rfl (lv_at hl 0 rfl) ?_
    refine lv_dup hx hb d_Mo_addDraw_22 rfl ?_
    refine gfC_Mo_51 C hP h_a0 d_Mo_addDraw_23 ?_
    refine lv_iconst (v := (1 : Int32)) hx hb d_Mo_addDraw_26 (by decide) ?_
    refine lv_iadd hx hb d_Mo_addDraw_27 ?_
    refine pfC_Mo_51 C hΘ hP hS h_a0 d_Mo_addDraw_28 (fun H locs hP hS => ?_)
    obtain ⟨I3, eI3⟩ : ∃ y, y = xu I2 (14 + a0) 3 ((I2 (14 + a0) 3) + (1 : Int32)) := ⟨_, rfl⟩
    have hP : va_P D clA (xw 52 Θ (eC Θ κ) I3 J) H := by rw [eI3]; exact hP
    have h := h I3 eI3
    refine lv_iconst (v := (1 : Int32)) hx hb d_Mo_addDraw_31 (by decide) ?_
    exact x_zret hx hb hr hlocks hP hS (by decide) h d_Mo_addDraw_32
  · have h := h.2 hc4
    refine lv_iconst (v := (0 : Int32)) hx hb d_Mo_addDraw_9 (by decide) ?_
    exact x_zret hx hb hr hlocks hP hS (by decide) h d_Mo_addDraw_10
set_option maxHeartbeats 4000000 in
set_option maxRecDepth 100000 in
theorem c_Mo_takeDraw (l : Launch) (D : va_G) (κ : Nat → ClassId) {Θ : Nat → Nat} (hΘ : xJ 52 Θ) (sz : Nat) (a0 : Nat) (h_a0 : a0 < 8) (I : SI) (J : SJ) (post : Int32 → SI → SJ → Prop) (h : p_Mo_takeDraw a0 post I J) : Met l y_Mo_takeDraw WS rm_Mo_takeDraw (va_Pc [.ref (Θ (14 + a0))] (xPR D clA (tysA κ) 52 Θ (eC Θ κ) sz I J)) (xQi D clA 52 Θ (eC Θ κ) sz post) 0 0 (xA 52 Θ sz) := by
  refine xMet (cc := b_Mo_takeDraw) (maxL := 2) (ret := (some .int)) (by decide) q_Mo_takeDraw.1 ?_
  intro p e s m args below meth c s₁ B hml hv
  obtain ⟨hargs, hsz, hP, hK, hN, hG⟩ := hv
  have hx := B.exec
  have hb := B.bytes
  have hr := B.returns
  have hlocks := B.notSynchronized
  have hts := atoms_spec (ws := WS) B.pre
  have hown : s.vm.findClass R_Mo = some m.cls := findClass_of_methodNamed B.named
  have C : xC p m c b_Mo_takeDraw 2 s args R_Mo D clA (tysA κ) 52 Θ sz := ⟨⟨hx, hb, hml, hown, hts⟩, hK, hN, hG, hsz⟩
  have hS : va_S (xA 52 Θ sz) s.heap s.heap [] := va_S.rf
  have hE := lg_entry_eq m [.ref (Θ (14 + a0))] 2
  rw [← hargs] at hE
  rw [hE]
  have hl := lv_entry [.ref (Θ (14 + a0))] (n := 2) (Nat.le_of_ble_eq_true rfl)
  generalize (lg_sl [.ref (Θ (14 + a0))] ++ List.replicate (2 - (lg_sl [.ref (Θ (14 + a0))]).length) Slot.unset).toArray = ls at hl ⊢
  have hl : lv_has ls 2 [(0, .ref (Θ (14 + a0)))] := hl
  unfold p_Mo_takeDraw at h
  refine lv_aload_n hx hb d_Mo_takeDraw_0 rfl (lv_at hl 0 rfl) ?_
  refine gfC_Mo_51 C hP h_a0 d_Mo_takeDraw_1 ?_
  refine lv_if_ne hx hb d_Mo_takeDraw_4 (tgt := 9) rfl (fun hc7 => ?_) (fun hc7 => ?_)
  · have h := h.1 hc7
    refine lv_aload_n hx hb d_Mo_takeDraw_9 rfl (lv_at hl 0 rfl) ?_
    refine gfC_Mo_22 C hP h_a0 d_Mo_takeDraw_10 ?_
    refine lv_iconst (v := (0 : Int32)) hx hb d_Mo_takeDraw_13 (by decide) ?_
    refine x_iald hx hb hK hP (30 + a0) 0 (xlt h_a0 rfl) (eC_draws h_a0) rfl (j := 0) (by decide) (Nat.le_of_ble_eq_true rfl) (by decide) d_Mo_takeDraw_14 ?_
    refine lv_topi (fun x1 ex1 => ?_)
    have h := h x1 ex1
    refine lv_istore_n hx hb d_Mo_takeDraw_15 rfl hl (Nat.le_of_ble_eq_true rfl) (lv' := [(1, .int x1), (0, .ref (Θ (14 + a0)))]) rfl (fun ls hl => ?_)
    refine lv_aload_n hx hb d_Mo_takeDraw_16 rfl (lv_at hl 1 rfl) ?_
    refine lv_dup hx hb d_Mo_takeDraw_17 rfl ?_
    refine gfC_Mo_51 C hP h_a0 d_Mo_takeDraw_18 ?_
    refine lv_iconst (v := (1 : Int32)) hx hb d_Mo_takeDraw_21 (by decide) ?_
    refine lv_isub hx hb d_Mo_takeDraw_22 ?_
    refine pfC_Mo_51 C hΘ hP hS h_a0 d_Mo_takeDraw_23 (fun H locs hP hS => ?_)
    obtain ⟨I2, eI2⟩ : ∃ y, y = xu I (14 + a0) 3 ((I (14 + a0) 3) - (1 : Int32)) := ⟨_, rfl⟩
    have hP : va_P D clA (xw 52 Θ (eC Θ κ) I2 J) H := by rw [eI2]; exact hP
    have h := h I2 eI2
    refine lv_aload_n hx hb d_Mo_takeDraw_26 rfl (lv_at hl 1 rfl) ?_
    refine gfC_Mo_22 C hP h_a0 d_Mo_takeDraw_27 ?_
    refine lv_iconst (v := (1 : Int32)) hx hb d_Mo_takeDraw_30 (by decide) ?_
    refine lv_aload_n hx hb d_Mo_takeDraw_31 rfl (lv_at hl 1 rfl) ?_
    refine gfC_Mo_22 C hP h_a0 d_Mo_takeDraw_32 ?_
    refine lv_iconst (v := (0 : Int32)) hx hb d_Mo_takeDraw_35 (by decide) ?_
    refine lv_aload_n hx hb d_Mo_takeDraw_36 rfl (lv_at hl 1 rfl) ?_
    refine gfC_Mo_51 C hP h_a0 d_Mo_takeDraw_37 ?_
    obtain ⟨j3, j4, j5, ej3, ej4, ej5, h_j3, h_j4, h⟩ := h
    refine x_copy C hΘ hP hS (30 + a0) (xlt h_a0 rfl) (eC_draws h_a0) rfl ej3 ej4 ej5 h_j3 h_j4 (by decide) hl.1 k_719 (Nat.le_of_ble_eq_true rfl) (Nat.le_of_ble_eq_true rfl) d_Mo_takeDraw_40 (fun H locs hP hS => ?_)
    obtain ⟨I6, eI6⟩ : ∃ y, y = xr I2 (30 + a0) (va_cpy (I2 (30 + a0)) (I2 (30 + a0)) j3 j4 j5) := ⟨_, rfl⟩
    have hP : va_P D clA (xw 52 Θ (eC Θ κ) I6 J) H := by rw [eI6]; exact hP
    have h := h I6 eI6
    refine lv_iload_n hx hb d_Mo_takeDraw_43 rfl (lv_at hl 0 rfl) ?_
    exact x_iret hx hb hr hlocks hP hS h d_Mo_takeDraw_44
  · have h := h.2 hc7
    refine lv_iconst (v := (1 : Int32)) hx hb d_Mo_takeDraw_7 (by decide) ?_
    exact x_iret hx hb hr hlocks hP hS h d_Mo_takeDraw_8
set_option maxHeartbeats 4000000 in
set_option maxRecDepth 100000 in
theorem c_Mo_messageBlock (l : Launch) (D : va_G) (κ : Nat → ClassId) {Θ : Nat → Nat} (hΘ : xJ 52 Θ) (sz : Nat) (a0 : Nat) (h_a0 : a0 < 8) (p1 : Int32) (I : SI) (J : SJ) (post : Int32 → SI → SJ → Prop) (h : p_Mo_messageBlock a0 p1 post I J) : Met l y_Mo_messageBlock WS rm_Mo_messageBlock (va_Pc [.ref (Θ (14 + a0)), .int p1] (xPR D clA (tysA κ) 52 Θ (eC Θ κ) sz I J)) (xQi D clA 52 Θ (eC Θ κ) sz post) 0 0 (xA 52 Θ sz) := by
  refine xMet (cc := b_Mo_messageBlock) (maxL := 2) (ret := (some .int)) (by decide) q_Mo_messageBlock.1 ?_
  intro p e s m args below meth c s₁ B hml hv
  obtain ⟨hargs, hsz, hP, hK, hN, hG⟩ := hv
  have hx := B.exec
  have hb := B.bytes
  have hr := B.returns
  have hlocks := B.notSynchronized
  have hts := atoms_spec (ws := WS) B.pre
  have hown : s.vm.findClass R_Mo = some m.cls := findClass_of_methodNamed B.named
  have C : xC p m c b_Mo_messageBlock 2 s args R_Mo D clA (tysA κ) 52 Θ sz := ⟨⟨hx, hb, hml, hown, hts⟩, hK, hN, hG, hsz⟩
  have hS : va_S (xA 52 Θ sz) s.heap s.heap [] := va_S.rf
  have hE := lg_entry_eq m [.ref (Θ (14 + a0)), .int p1] 2
  rw [← hargs] at hE
  rw [hE]
  have hl := lv_entry [.ref (Θ (14 + a0)), .int p1] (n := 2) (Nat.le_of_ble_eq_true rfl)
  generalize (lg_sl [.ref (Θ (14 + a0)), .int p1] ++ List.replicate (2 - (lg_sl [.ref (Θ (14 + a0)), .int p1]).length) Slot.unset).toArray = ls at hl ⊢
  have hl : lv_has ls 2 [(0, .ref (Θ (14 + a0))), (1, .int p1)] := hl
  unfold p_Mo_messageBlock at h
  refine lv_aload_n hx hb d_Mo_messageBlock_0 rfl (lv_at hl 0 rfl) ?_
  refine gfC_Mo_18 C hP h_a0 d_Mo_messageBlock_1 ?_
  refine x_gi (x_V C hP hS (xlt h_a0 rfl) ((eC_Me h_a0) _ _) rfl (c_Me_kind l D κ hΘ sz a0 h_a0 I J _ h) q_Me_kind k_246 k_247 k_245 rfl rfl ⟨Nat.le_of_ble_eq_true rfl, Nat.le_of_ble_eq_true rfl⟩ rfl hl.1 rfl (Nat.le_of_ble_eq_true rfl) d_Mo_messageBlock_4) hS (fun r3 I1 J2 h H locs hP hS => ?_)
  refine lv_iconst (v := (1 : Int32)) hx hb d_Mo_messageBlock_7 (by decide) ?_
  refine lv_icmp_ne hx hb d_Mo_messageBlock_8 (tgt := 34) rfl (fun hc7 => ?_) (fun hc7 => ?_)
  · have h := h.1 hc7
    refine lv_aload_n hx hb d_Mo_messageBlock_34 rfl (lv_at hl 0 rfl) ?_
    refine gfC_Mo_18 C hP h_a0 d_Mo_messageBlock_35 ?_
    refine gfC_Mo_66 C hP h_a0 d_Mo_messageBlock_38 ?_
    exact x_iret hx hb hr hlocks hP hS h d_Mo_messageBlock_41
  · have h := h.2 hc7
    refine lv_aload_n hx hb d_Mo_messageBlock_11 rfl (lv_at hl 0 rfl) ?_
    refine gfC_Mo_18 C hP h_a0 d_Mo_messageBlock_12 ?_
    refine gfC_Mo_66 C hP h_a0 d_Mo_messageBlock_15 ?_
    refine lv_aload_n hx hb d_Mo_messageBlock_18 rfl (lv_at hl 0 rfl) ?_
    refine gfC_Mo_69 C hP h_a0 d_Mo_messageBlock_19 ?_
    refine lv_iload_n hx hb d_Mo_messageBlock_22 rfl (lv_at hl 1 rfl) ?_
    refine x_gi (x_SN C hP hS (c_TC_mix l D κ hΘ sz (I1 (14 + a0) 4) p1 I1 J2 _ h) q_TC_mix k_579 nk_578 rfl rfl ⟨Nat.le_of_ble_eq_true rfl, Nat.le_of_ble_eq_true rfl⟩ rfl hl.1 rfl (Nat.le_of_ble_eq_true rfl) d_Mo_messageBlock_23) hS (fun r6 I4 J5 h H locs hP hS => ?_)
    refine lv_sipush (v := (511 : Int32)) hx hb d_Mo_messageBlock_26 (by decide) ?_
    refine lv_iand hx hb d_Mo_messageBlock_29 ?_
    refine lv_ior hx hb d_Mo_messageBlock_30 ?_
    refine lv_goto hx hb d_Mo_messageBlock_31 (tgt := 41) rfl ?_
    exact x_iret hx hb hr hlocks hP hS h d_Mo_messageBlock_41
set_option maxHeartbeats 4000000 in
set_option maxRecDepth 100000 in
theorem c_Mo_settleMessage (l : Launch) (D : va_G) (κ : Nat → ClassId) {Θ : Nat → Nat} (hΘ : xJ 52 Θ) (sz : Nat) (a0 : Nat) (h_a0 : a0 < 8) (I : SI) (J : SJ) (post : SI → SJ → Prop) (h : p_Mo_settleMessage a0 post I J) : Met l y_Mo_settleMessage WS rm_Mo_settleMessage (va_Pc [.ref (Θ (14 + a0))] (xPR D clA (tysA κ) 52 Θ (eC Θ κ) sz I J)) (xQv D clA 52 Θ (eC Θ κ) sz post) 0 0 (xA 52 Θ sz) := by
  refine xMet (cc := b_Mo_settleMessage) (maxL := 1) (ret := none) (by decide) q_Mo_settleMessage.1 ?_
  intro p e s m args below meth c s₁ B hml hv
  obtain ⟨hargs, hsz, hP, hK, hN, hG⟩ := hv
  have hx := B.exec
  have hb := B.bytes
  have hr := B.returns
  have hlocks := B.notSynchronized
  have hts := atoms_spec (ws := WS) B.pre
  have hown : s.vm.findClass R_Mo = some m.cls := findClass_of_methodNamed B.named
  have C : xC p m c b_Mo_settleMessage 1 s args R_Mo D clA (tysA κ) 52 Θ sz := ⟨⟨hx, hb, hml, hown, hts⟩, hK, hN, hG, hsz⟩
  have hS : va_S (xA 52 Θ sz) s.heap s.heap [] := va_S.rf
  have hE := lg_entry_eq m [.ref (Θ (14 + a0))] 1
  rw [← hargs] at hE
  rw [hE]
  have hl := lv_entry [.ref (Θ (14 + a0))] (n := 1) (Nat.le_of_ble_eq_true rfl)
  generalize (lg_sl [.ref (Θ (14 + a0))] ++ List.replicate (1 - (lg_sl [.ref (Θ (14 + a0))]).length) Slot.unset).toArray = ls at hl ⊢
  have hl : lv_has ls 1 [(0, .ref (Θ (14 + a0)))] := hl
  unfold p_Mo_settleMessage at h
  refine lv_aload_n hx hb d_Mo_settleMessage_0 rfl (lv_at hl 0 rfl) ?_
  refine gfC_Mo_18 C hP h_a0 d_Mo_settleMessage_1 ?_
  refine gfC_Mo_76 C hP h_a0 d_Mo_settleMessage_4 ?_
  refine lv_if_ne hx hb d_Mo_settleMessage_7 (tgt := 11) rfl (fun hc9 => ?_) (fun hc9 => ?_)
  · have h := h.1 hc9
    refine lv_aload_n hx hb d_Mo_settleMessage_11 rfl (lv_at hl 0 rfl) ?_
    refine gfC_Mo_18 C hP h_a0 d_Mo_settleMessage_12 ?_
    refine lv_dup hx hb d_Mo_settleMessage_15 rfl ?_
    refine gfC_Mo_80 C hP h_a0 d_Mo_settleMessage_16 ?_
    refine lv_iconst (v := (1 : Int32)) hx hb d_Mo_settleMessage_19 (by decide) ?_
    refine lv_iadd hx hb d_Mo_settleMessage_20 ?_
    refine pfC_Mo_80 C hΘ hP hS h_a0 d_Mo_settleMessage_21 (fun H locs hP hS => ?_)
    obtain ⟨I1, eI1⟩ : ∃ y, y = xu I (22 + a0) 1 ((I (22 + a0) 1) + (1 : Int32)) := ⟨_, rfl⟩
    have hP : va_P D clA (xw 52 Θ (eC Θ κ) I1 J) H := by rw [eI1]; exact hP
    have h := h I1 eI1
    refine lv_aload_n hx hb d_Mo_settleMessage_24 rfl (lv_at hl 0 rfl) ?_
    refine gfC_Mo_18 C hP h_a0 d_Mo_settleMessage_25 ?_
    refine gfC_Mo_80 C hP h_a0 d_Mo_settleMessage_28 ?_
    refine lv_iconst (v := (5 : Int32)) hx hb d_Mo_settleMessage_31 (by decide) ?_
    refine lv_icmp_lt hx hb d_Mo_settleMessage_32 (tgt := 45) rfl (fun hc8 => ?_) (fun hc8 => ?_)
    · have h := h.1 hc8
      refine lv_aload_n hx hb d_Mo_settleMessage_45 rfl (lv_at hl 0 rfl) ?_
      refine gfC_Mo_18 C hP h_a0 d_Mo_settleMessage_46 ?_
      refine lv_aload_n hx hb d_Mo_settleMessage_49 rfl (lv_at hl 0 rfl) ?_
      refine x_gi (x_V C hP hS (xlt h_a0 rfl) ((eC_Mo h_a0) _ _) rfl (c_Mo_takeDraw l D κ hΘ sz a0 h_a0 I1 J _ h) q_Mo_takeDraw k_717 sel_Mo_takeDraw k_715 rfl rfl ⟨Nat.le_of_ble_eq_true rfl, Nat.le_of_ble_eq_true rfl⟩ rfl hl.1 rfl (Nat.le_of_ble_eq_true rfl) d_Mo_settleMessage_50) hS (fun r4 I2 J3 h H locs hP hS => ?_)
      refine pfC_Mo_89 C hΘ hP hS h_a0 d_Mo_settleMessage_53 (fun H locs hP hS => ?_)
      obtain ⟨I5, eI5⟩ : ∃ y, y = xu I2 (22 + a0) 2 r4 := ⟨_, rfl⟩
      have hP : va_P D clA (xw 52 Θ (eC Θ κ) I5 J3) H := by rw [eI5]; exact hP
      have h := h I5 eI5
      exact x_vret hx hb hr hlocks hP hS h d_Mo_settleMessage_56
    · have h := h.2 hc8
      refine lv_aload_n hx hb d_Mo_settleMessage_35 rfl (lv_at hl 0 rfl) ?_
      refine gfC_Mo_18 C hP h_a0 d_Mo_settleMessage_36 ?_
      refine x_gv (x_V C hP hS (xlt h_a0 rfl) ((eC_Me h_a0) _ _) rfl (c_Me_drop l D κ hΘ sz a0 h_a0 I1 J _ h) q_Me_drop k_431 k_432 k_697 rfl rfl ⟨Nat.le_of_ble_eq_true rfl, Nat.le_of_ble_eq_true rfl⟩ rfl hl.1 rfl (Nat.le_of_ble_eq_true rfl) d_Mo_settleMessage_39) hS (fun I6 J7 h H locs hP hS => ?_)
      refine lv_goto hx hb d_Mo_settleMessage_42 (tgt := 56) rfl ?_
      exact x_vret hx hb hr hlocks hP hS h d_Mo_settleMessage_56
  · have h := h.2 hc9
    exact x_vret hx hb hr hlocks hP hS h d_Mo_settleMessage_10
set_option maxHeartbeats 4000000 in
set_option maxRecDepth 100000 in
theorem c_Mo_followGrant (l : Launch) (D : va_G) (κ : Nat → ClassId) {Θ : Nat → Nat} (hΘ : xJ 52 Θ) (sz : Nat) (a0 : Nat) (h_a0 : a0 < 8) (p1 : Int32) (p2 : Int32) (p3 : Int32) (I : SI) (J : SJ) (post : SI → SJ → Prop) (h : p_Mo_followGrant a0 p1 p2 p3 post I J) : Met l y_Mo_followGrant WS rm_Mo_followGrant (va_Pc [.ref (Θ (14 + a0)), .int p1, .int p2, .int p3] (xPR D clA (tysA κ) 52 Θ (eC Θ κ) sz I J)) (xQv D clA 52 Θ (eC Θ κ) sz post) 0 0 (xA 52 Θ sz) := by
  refine xMet (cc := b_Mo_followGrant) (maxL := 4) (ret := none) (by decide) q_Mo_followGrant.1 ?_
  intro p e s m args below meth c s₁ B hml hv
  obtain ⟨hargs, hsz, hP, hK, hN, hG⟩ := hv
  have hx := B.exec
  have hb := B.bytes
  have hr := B.returns
  have hlocks := B.notSynchronized
  have hts := atoms_spec (ws := WS) B.pre
  have hown : s.vm.findClass R_Mo = some m.cls := findClass_of_methodNamed B.named
  have C : xC p m c b_Mo_followGrant 4 s args R_Mo D clA (tysA κ) 52 Θ sz := ⟨⟨hx, hb, hml, hown, hts⟩, hK, hN, hG, hsz⟩
  have hS : va_S (xA 52 Θ sz) s.heap s.heap [] := va_S.rf
  have tJ38 : ∀ (I : SI) (J : SJ), p_Mo_followGrant_38 a0 p1 p2 p3 post I J → ∀ (H : Heap) (locs : List Loc) (ls : Array Slot), lv_has ls 4 [(0, .ref (Θ (14 + a0))), (2, .int p2), (3, .int p3)] → va_P D clA (xw 52 Θ (eC Θ κ) I J) H → va_S (xA 52 Θ sz) s.heap H locs → W p l e (headSpec WS rm_Mo_followGrant).room s m args below meth c H locs 0 0 (MQ below (xQv D clA 52 Θ (eC Θ κ) sz post) args s 0 0 (xA 52 Θ sz)) (F0 m 38 ls []) := by
    intro I J h H locs ls hl hP hS
    unfold p_Mo_followGrant_38 at h
    refine lv_aload_n hx hb d_Mo_followGrant_38 rfl (lv_at hl 0 rfl) ?_
    refine lv_iconst (v := (2 : Int32)) hx hb d_Mo_followGrant_39 (by decide) ?_
    refine lv_iload_n hx hb d_Mo_followGrant_40 rfl (lv_at hl 2 rfl) ?_
    refine lv_iload_n hx hb d_Mo_followGrant_41 rfl (lv_at hl 1 rfl) ?_
    refine x_gv (x_V C hP hS (xlt h_a0 rfl) ((eC_Mo h_a0) _ _) rfl (c_Mo_join l D κ hΘ sz a0 h_a0 (2 : Int32) p3 p2 I J _ h) q_Mo_join k_444 sel_Mo_join k_442 rfl rfl ⟨Nat.le_of_ble_eq_true rfl, Nat.le_of_ble_eq_true rfl⟩ rfl hl.1 rfl (Nat.le_of_ble_eq_true rfl) d_Mo_followGrant_42) hS (fun I1 J2 h H locs hP hS => ?_)
    exact x_vret hx hb hr hlocks hP hS h d_Mo_followGrant_45
  have tJ22 : ∀ (I : SI) (J : SJ), p_Mo_followGrant_22 a0 p1 p2 p3 post I J → ∀ (H : Heap) (locs : List Loc) (ls : Array Slot), lv_has ls 4 [(0, .ref (Θ (14 + a0))), (2, .int p2), (3, .int p3)] → va_P D clA (xw 52 Θ (eC Θ κ) I J) H → va_S (xA 52 Θ sz) s.heap H locs → W p l e (headSpec WS rm_Mo_followGrant).room s m args below meth c H locs 0 0 (MQ below (xQv D clA 52 Θ (eC Θ κ) sz post) args s 0 0 (xA 52 Θ sz)) (F0 m 22 ls []) := by
    intro I J h H locs ls hl hP hS
    unfold p_Mo_followGrant_22 at h
    refine lv_aload_n hx hb d_Mo_followGrant_22 rfl (lv_at hl 0 rfl) ?_
    refine gfC_Mo_32 C hP h_a0 d_Mo_followGrant_23 ?_
    refine lv_iconst (v := (1 : Int32)) hx hb d_Mo_followGrant_26 (by decide) ?_
    refine lv_icmp_ne hx hb d_Mo_followGrant_27 (tgt := 38) rfl (fun hc4 => ?_) (fun hc4 => ?_)
    · have h := h.1 hc4
      exact tJ38 _ _ h _ _ _ (lv_sub hl [0, 1, 2] rfl) hP hS
    · have h := h.2 hc4
      refine lv_aload_n hx hb d_Mo_followGrant_30 rfl (lv_at hl 0 rfl) ?_
      refine gfC_Mo_38 C hP h_a0 d_Mo_followGrant_31 ?_
      refine lv_iload_n hx hb d_Mo_followGrant_34 rfl (lv_at hl 1 rfl) ?_
      refine lv_icmp_ne hx hb d_Mo_followGrant_35 (tgt := 45) rfl (fun hc3 => ?_) (fun hc3 => ?_)
      · have h := h.1 hc3
        exact x_vret hx hb hr hlocks hP hS h d_Mo_followGrant_45
      · have h := h.2 hc3
        exact tJ38 _ _ h _ _ _ (lv_sub hl [0, 1, 2] rfl) hP hS
  have hE := lg_entry_eq m [.ref (Θ (14 + a0)), .int p1, .int p2, .int p3] 4
  rw [← hargs] at hE
  rw [hE]
  have hl := lv_entry [.ref (Θ (14 + a0)), .int p1, .int p2, .int p3] (n := 4) (Nat.le_of_ble_eq_true rfl)
  generalize (lg_sl [.ref (Θ (14 + a0)), .int p1, .int p2, .int p3] ++ List.replicate (4 - (lg_sl [.ref (Θ (14 + a0)), .int p1, .int p2, .int p3]).length) Slot.unset).toArray = ls at hl ⊢
  have hl : lv_has ls 4 [(0, .ref (Θ (14 + a0))), (1, .int p1), (2, .int p2), (3, .int p3)] := hl
  unfold p_Mo_followGrant at h
  refine lv_iload_n hx hb d_Mo_followGrant_0 rfl (lv_at hl 1 rfl) ?_
  refine lv_if_eq hx hb d_Mo_followGrant_1 (tgt := 22) rfl (fun hc8 => ?_) (fun hc8 => ?_)
  · have h := h.1 hc8
    exact tJ22 _ _ h _ _ _ (lv_sub hl [0, 2, 3] rfl) hP hS
  · have h := h.2 hc8
    refine lv_aload_n hx hb d_Mo_followGrant_4 rfl (lv_at hl 0 rfl) ?_
    refine gfC_Mo_29 C hP h_a0 d_Mo_followGrant_5 ?_
    refine lv_iload_n hx hb d_Mo_followGrant_8 rfl (lv_at hl 2 rfl) ?_
    refine lv_icmp_ne hx hb d_Mo_followGrant_9 (tgt := 22) rfl (fun hc7 => ?_) (fun hc7 => ?_)
    · have h := h.1 hc7
      exact tJ22 _ _ h _ _ _ (lv_sub hl [0, 2, 3] rfl) hP hS
    · have h := h.2 hc7
      refine lv_aload_n hx hb d_Mo_followGrant_12 rfl (lv_at hl 0 rfl) ?_
      refine lv_iconst (v := (1 : Int32)) hx hb d_Mo_followGrant_13 (by decide) ?_
      refine lv_iload_n hx hb d_Mo_followGrant_14 rfl (lv_at hl 3 rfl) ?_
      refine lv_iload_n hx hb d_Mo_followGrant_15 rfl (lv_at hl 2 rfl) ?_
      refine x_gv (x_V C hP hS (xlt h_a0 rfl) ((eC_Mo h_a0) _ _) rfl (c_Mo_join l D κ hΘ sz a0 h_a0 (1 : Int32) p3 p2 I J _ h) q_Mo_join k_444 sel_Mo_join k_442 rfl rfl ⟨Nat.le_of_ble_eq_true rfl, Nat.le_of_ble_eq_true rfl⟩ rfl hl.1 rfl (Nat.le_of_ble_eq_true rfl) d_Mo_followGrant_16) hS (fun I5 J6 h H locs hP hS => ?_)
      refine lv_goto hx hb d_Mo_followGrant_19 (tgt := 45) rfl ?_
      exact x_vret hx hb hr hlocks hP hS h d_Mo_followGrant_45
set_option maxHeartbeats 4000000 in
set_option maxRecDepth 100000 in
theorem c_Mo_obey (l : Launch) (D : va_G) (κ : Nat → ClassId) {Θ : Nat → Nat} (hΘ : xJ 52 Θ) (sz : Nat) (a0 : Nat) (h_a0 : a0 < 8) (p1 : Int32) (p2 : Int32) (I : SI) (J : SJ) (post : SI → SJ → Prop) (h : p_Mo_obey a0 p1 p2 post I J) : Met l y_Mo_obey WS rm_Mo_obey (va_Pc [.ref (Θ (14 + a0)), .int p1, .int p2] (xPR D clA (tysA κ) 52 Θ (eC Θ κ) sz I J)) (xQv D clA 52 Θ (eC Θ κ) sz post) 0 0 (xA 52 Θ sz) := by
  refine xMet (cc := b_Mo_obey) (maxL := 4) (ret := none) (by decide) q_Mo_obey.1 ?_
  intro p e s m args below meth c s₁ B hml hv
  obtain ⟨hargs, hsz, hP, hK, hN, hG⟩ := hv
  have hx := B.exec
  have hb := B.bytes
  have hr := B.returns
  have hlocks := B.notSynchronized
  have hts := atoms_spec (ws := WS) B.pre
  have hown : s.vm.findClass R_Mo = some m.cls := findClass_of_methodNamed B.named
  have C : xC p m c b_Mo_obey 4 s args R_Mo D clA (tysA κ) 52 Θ sz := ⟨⟨hx, hb, hml, hown, hts⟩, hK, hN, hG, hsz⟩
  have hS : va_S (xA 52 Θ sz) s.heap s.heap [] := va_S.rf
  have tJ16 : ∀ (s0 : Int32) (I : SI) (J : SJ), p_Mo_obey_16 a0 p1 p2 post s0 I J → ∀ (H : Heap) (locs : List Loc) (ls : Array Slot), lv_has ls 4 [(0, .ref (Θ (14 + a0))), (1, .int p1), (2, .int p2)] → va_P D clA (xw 52 Θ (eC Θ κ) I J) H → va_S (xA 52 Θ sz) s.heap H locs → W p l e (headSpec WS rm_Mo_obey).room s m args below meth c H locs 0 0 (MQ below (xQv D clA 52 Θ (eC Θ κ) sz post) args s 0 0 (xA 52 Θ sz)) (F0 m 16 ls [.int s0]) := by
    intro s0 I J h H locs ls hl hP hS
    unfold p_Mo_obey_16 at h
    refine lv_istore_n hx hb d_Mo_obey_16 rfl hl (Nat.le_of_ble_eq_true rfl) (lv' := [(3, .int s0), (0, .ref (Θ (14 + a0))), (1, .int p1), (2, .int p2)]) rfl (fun ls hl => ?_)
    refine lv_iload_n hx hb d_Mo_obey_17 rfl (lv_at hl 2 rfl) ?_
    refine x_gi (x_S C hP hS (c_Bk_kindOf l D κ hΘ sz p1 I J _ h) q_Bk_kindOf k_250 k_696 rfl rfl ⟨Nat.le_of_ble_eq_true rfl, Nat.le_of_ble_eq_true rfl⟩ rfl hl.1 rfl (Nat.le_of_ble_eq_true rfl) d_Mo_obey_18) hS (fun r6 I4 J5 h H locs hP hS => ?_)
    by_cases hc11 : r6 = (8 : Int32)
    · have h := h.1 hc11
      refine lv_tableIn hx hb d_Mo_obey_21 (off := 31) (tgt := 52) (by rw [hc11]; decide) (by rw [hc11]; decide) (by rw [hc11]; decide) rfl ?_
      refine lv_iload_n hx hb d_Mo_obey_52 rfl (lv_at hl 0 rfl) ?_
      refine lv_if_eq hx hb d_Mo_obey_53 (tgt := 147) rfl (fun hc10 => ?_) (fun hc10 => ?_)
      · have h := h.1 hc10
        exact x_vret hx hb hr hlocks hP hS h d_Mo_obey_147
      · have h := h.2 hc10
        refine lv_aload_n hx hb d_Mo_obey_56 rfl (lv_at hl 1 rfl) ?_
        refine gfC_Mo_18 C hP h_a0 d_Mo_obey_57 ?_
        refine gfC_Mo_76 C hP h_a0 d_Mo_obey_60 ?_
        refine lv_if_eq hx hb d_Mo_obey_63 (tgt := 147) rfl (fun hc9 => ?_) (fun hc9 => ?_)
        · have h := h.1 hc9
          exact x_vret hx hb hr hlocks hP hS h d_Mo_obey_147
        · have h := h.2 hc9
          refine lv_aload_n hx hb d_Mo_obey_66 rfl (lv_at hl 1 rfl) ?_
          refine gfC_Mo_18 C hP h_a0 d_Mo_obey_67 ?_
          refine x_gv (x_V C hP hS (xlt h_a0 rfl) ((eC_Me h_a0) _ _) rfl (c_Me_drop l D κ hΘ sz a0 h_a0 I4 J5 _ h) q_Me_drop k_431 k_432 k_697 rfl rfl ⟨Nat.le_of_ble_eq_true rfl, Nat.le_of_ble_eq_true rfl⟩ rfl hl.1 rfl (Nat.le_of_ble_eq_true rfl) d_Mo_obey_70) hS (fun I7 J8 h H locs hP hS => ?_)
          refine lv_goto hx hb d_Mo_obey_73 (tgt := 147) rfl ?_
          exact x_vret hx hb hr hlocks hP hS h d_Mo_obey_147
    have h := h.2 hc11
    by_cases hc21 : r6 = (9 : Int32)
    · have h := h.1 hc21
      refine lv_tableIn hx hb d_Mo_obey_21 (off := 55) (tgt := 76) (by rw [hc21]; decide) (by rw [hc21]; decide) (by rw [hc21]; decide) rfl ?_
      refine lv_iload_n hx hb d_Mo_obey_76 rfl (lv_at hl 3 rfl) ?_
      refine lv_if_eq hx hb d_Mo_obey_77 (tgt := 147) rfl (fun hc20 => ?_) (fun hc20 => ?_)
      · have h := h.1 hc20
        exact x_vret hx hb hr hlocks hP hS h d_Mo_obey_147
      · have h := h.2 hc20
        refine lv_aload_n hx hb d_Mo_obey_80 rfl (lv_at hl 1 rfl) ?_
        refine lv_iload_n hx hb d_Mo_obey_81 rfl (lv_at hl 0 rfl) ?_
        refine lv_iload_n hx hb d_Mo_obey_82 rfl (lv_at hl 2 rfl) ?_
        refine x_gi (x_S C hP hS (c_Bk_groupOf l D κ hΘ sz p1 I4 J5 _ h) q_Bk_groupOf k_618 k_698 rfl rfl ⟨Nat.le_of_ble_eq_true rfl, Nat.le_of_ble_eq_true rfl⟩ rfl hl.1 rfl (Nat.le_of_ble_eq_true rfl) d_Mo_obey_83) hS (fun r14 I12 J13 h H locs hP hS => ?_)
        refine lv_iload_n hx hb d_Mo_obey_86 rfl (lv_at hl 2 rfl) ?_
        refine x_gi (x_S C hP hS (c_Bk_levelOf l D κ hΘ sz p1 I12 J13 _ h) q_Bk_levelOf k_621 k_699 rfl rfl ⟨Nat.le_of_ble_eq_true rfl, Nat.le_of_ble_eq_true rfl⟩ rfl hl.1 rfl (Nat.le_of_ble_eq_true rfl) d_Mo_obey_87) hS (fun r17 I15 J16 h H locs hP hS => ?_)
        refine x_gv (x_V C hP hS (xlt h_a0 rfl) ((eC_Mo h_a0) _ _) rfl (c_Mo_followGrant l D κ hΘ sz a0 h_a0 s0 r14 r17 I15 J16 _ h) q_Mo_followGrant k_702 sel_Mo_followGrant k_700 rfl rfl ⟨Nat.le_of_ble_eq_true rfl, Nat.le_of_ble_eq_true rfl⟩ rfl hl.1 rfl (Nat.le_of_ble_eq_true rfl) d_Mo_obey_90) hS (fun I18 J19 h H locs hP hS => ?_)
        refine lv_goto hx hb d_Mo_obey_93 (tgt := 147) rfl ?_
        exact x_vret hx hb hr hlocks hP hS h d_Mo_obey_147
    have h := h.2 hc21
    by_cases hc28 : r6 = (10 : Int32)
    · have h := h.1 hc28
      refine lv_tableIn hx hb d_Mo_obey_21 (off := 75) (tgt := 96) (by rw [hc28]; decide) (by rw [hc28]; decide) (by rw [hc28]; decide) rfl ?_
      refine lv_aload_n hx hb d_Mo_obey_96 rfl (lv_at hl 1 rfl) ?_
      refine gfC_Mo_38 C hP h_a0 d_Mo_obey_97 ?_
      refine lv_iload_n hx hb d_Mo_obey_100 rfl (lv_at hl 2 rfl) ?_
      refine x_gi (x_S C hP hS (c_Bk_groupOf l D κ hΘ sz p1 I4 J5 _ h) q_Bk_groupOf k_618 k_698 rfl rfl ⟨Nat.le_of_ble_eq_true rfl, Nat.le_of_ble_eq_true rfl⟩ rfl hl.1 rfl (Nat.le_of_ble_eq_true rfl) d_Mo_obey_101) hS (fun r24 I22 J23 h H locs hP hS => ?_)
      refine lv_icmp_ne hx hb d_Mo_obey_104 (tgt := 147) rfl (fun hc27 => ?_) (fun hc27 => ?_)
      · have h := h.1 hc27
        exact x_vret hx hb hr hlocks hP hS h d_Mo_obey_147
      · have h := h.2 hc27
        refine lv_aload_n hx hb d_Mo_obey_107 rfl (lv_at hl 1 rfl) ?_
        refine x_gv (x_V C hP hS (xlt h_a0 rfl) ((eC_Mo h_a0) _ _) rfl (c_Mo_turnIdle l D κ hΘ sz a0 h_a0 I22 J23 _ h) q_Mo_turnIdle k_439 k_440 k_704 rfl rfl ⟨Nat.le_of_ble_eq_true rfl, Nat.le_of_ble_eq_true rfl⟩ rfl hl.1 rfl (Nat.le_of_ble_eq_true rfl) d_Mo_obey_108) hS (fun I25 J26 h H locs hP hS => ?_)
        refine lv_goto hx hb d_Mo_obey_111 (tgt := 147) rfl ?_
        exact x_vret hx hb hr hlocks hP hS h d_Mo_obey_147
    have h := h.2 hc28
    by_cases hc38 : r6 = (11 : Int32)
    · have h := h.1 hc38
      refine lv_tableIn hx hb d_Mo_obey_21 (off := 93) (tgt := 114) (by rw [hc38]; decide) (by rw [hc38]; decide) (by rw [hc38]; decide) rfl ?_
      refine lv_iload_n hx hb d_Mo_obey_114 rfl (lv_at hl 0 rfl) ?_
      refine lv_if_eq hx hb d_Mo_obey_115 (tgt := 147) rfl (fun hc37 => ?_) (fun hc37 => ?_)
      · have h := h.1 hc37
        exact x_vret hx hb hr hlocks hP hS h d_Mo_obey_147
      · have h := h.2 hc37
        refine lv_aload_n hx hb d_Mo_obey_118 rfl (lv_at hl 1 rfl) ?_
        refine lv_dup hx hb d_Mo_obey_119 rfl ?_
        refine gfC_Mo_112 C hP h_a0 d_Mo_obey_120 ?_
        refine lv_iconst (v := (1 : Int32)) hx hb d_Mo_obey_123 (by decide) ?_
        refine lv_iadd hx hb d_Mo_obey_124 ?_
        refine pfC_Mo_112 C hΘ hP hS h_a0 d_Mo_obey_125 (fun H locs hP hS => ?_)
        obtain ⟨I29, eI29⟩ : ∃ y, y = xu I4 (14 + a0) 13 ((I4 (14 + a0) 13) + (1 : Int32)) := ⟨_, rfl⟩
        have hP : va_P D clA (xw 52 Θ (eC Θ κ) I29 J5) H := by rw [eI29]; exact hP
        have h := h I29 eI29
        refine lv_aload_n hx hb d_Mo_obey_128 rfl (lv_at hl 1 rfl) ?_
        refine lv_bipush (v := (16 : Int32)) hx hb d_Mo_obey_129 (by decide) ?_
        refine lv_iload_n hx hb d_Mo_obey_131 rfl (lv_at hl 2 rfl) ?_
        refine x_gi (x_S C hP hS (c_Bk_restOf l D κ hΘ sz p1 I29 J5 _ h) q_Bk_restOf k_614 k_705 rfl rfl ⟨Nat.le_of_ble_eq_true rfl, Nat.le_of_ble_eq_true rfl⟩ rfl hl.1 rfl (Nat.le_of_ble_eq_true rfl) d_Mo_obey_132) hS (fun r32 I30 J31 h H locs hP hS => ?_)
        refine lv_imul hx hb d_Mo_obey_135 ?_
        refine lv_iload_n hx hb d_Mo_obey_136 rfl (lv_at hl 2 rfl) ?_
        refine x_gi (x_S C hP hS (c_Bk_otherOf l D κ hΘ sz p1 I30 J31 _ h) q_Bk_otherOf k_674 k_706 rfl rfl ⟨Nat.le_of_ble_eq_true rfl, Nat.le_of_ble_eq_true rfl⟩ rfl hl.1 rfl (Nat.le_of_ble_eq_true rfl) d_Mo_obey_137) hS (fun r35 I33 J34 h H locs hP hS => ?_)
        refine lv_iadd hx hb d_Mo_obey_140 ?_
        refine pfC_Mo_44 C hΘ hP hS h_a0 d_Mo_obey_141 (fun H locs hP hS => ?_)
        obtain ⟨I36, eI36⟩ : ∃ y, y = xu I33 (14 + a0) 14 (((16 : Int32) * r32) + r35) := ⟨_, rfl⟩
        have hP : va_P D clA (xw 52 Θ (eC Θ κ) I36 J34) H := by rw [eI36]; exact hP
        have h := h I36 eI36
        refine lv_goto hx hb d_Mo_obey_144 (tgt := 147) rfl ?_
        exact x_vret hx hb hr hlocks hP hS h d_Mo_obey_147
    have h := h.2 hc38
    refine lv_tableOut hx hb d_Mo_obey_21 (tgt := 147) (by have hq : ∀ k : Int32, ¬ r6 = k → ¬ (r6).toInt = k.toInt := fun k hk e => hk (Int32.toInt_inj.mp e); have q0 := hq _ hc11; have q1 := hq _ hc21; have q2 := hq _ hc28; have q3 := hq _ hc38; rw [show ((8 : Int32)).toInt = 8 from rfl] at q0; rw [show ((9 : Int32)).toInt = 9 from rfl] at q1; rw [show ((10 : Int32)).toInt = 10 from rfl] at q2; rw [show ((11 : Int32)).toInt = 11 from rfl] at q3; omega) rfl ?_
    exact x_vret hx hb hr hlocks hP hS h d_Mo_obey_147
  have hE := lg_entry_eq m [.ref (Θ (14 + a0)), .int p1, .int p2] 4
  rw [← hargs] at hE
  rw [hE]
  have hl := lv_entry [.ref (Θ (14 + a0)), .int p1, .int p2] (n := 4) (Nat.le_of_ble_eq_true rfl)
  generalize (lg_sl [.ref (Θ (14 + a0)), .int p1, .int p2] ++ List.replicate (4 - (lg_sl [.ref (Θ (14 + a0)), .int p1, .int p2]).length) Slot.unset).toArray = ls at hl ⊢
  have hl : lv_has ls 4 [(0, .ref (Θ (14 + a0))), (1, .int p1), (2, .int p2)] := hl
  unfold p_Mo_obey at h
  refine lv_iload_n hx hb d_Mo_obey_0 rfl (lv_at hl 1 rfl) ?_
  refine x_gi (x_S C hP hS (c_Bk_mobileOf l D κ hΘ sz p1 I J _ h) q_Bk_mobileOf k_595 k_695 rfl rfl ⟨Nat.le_of_ble_eq_true rfl, Nat.le_of_ble_eq_true rfl⟩ rfl hl.1 rfl (Nat.le_of_ble_eq_true rfl) d_Mo_obey_1) hS (fun r3 I1 J2 h H locs hP hS => ?_)
  refine lv_aload_n hx hb d_Mo_obey_4 rfl (lv_at hl 0 rfl) ?_
  refine gfC_Mo_9 C hP h_a0 d_Mo_obey_5 ?_
  refine lv_icmp_ne hx hb d_Mo_obey_8 (tgt := 15) rfl (fun hc39 => ?_) (fun hc39 => ?_)
  · have h := h.1 hc39
    refine lv_iconst (v := (0 : Int32)) hx hb d_Mo_obey_15 (by decide) ?_
    exact tJ16 _ _ _ h _ _ _ (lv_sub hl [0, 1, 2] rfl) hP hS
  · have h := h.2 hc39
    refine lv_iconst (v := (1 : Int32)) hx hb d_Mo_obey_11 (by decide) ?_
    refine lv_goto hx hb d_Mo_obey_12 (tgt := 16) rfl ?_
    exact tJ16 _ _ _ h _ _ _ (lv_sub hl [0, 1, 2] rfl) hP hS
set_option maxHeartbeats 4000000 in
set_option maxRecDepth 100000 in
theorem c_Mo_trafficBlock (l : Launch) (D : va_G) (κ : Nat → ClassId) {Θ : Nat → Nat} (hΘ : xJ 52 Θ) (sz : Nat) (a0 : Nat) (h_a0 : a0 < 8) (p1 : Int32) (I : SI) (J : SJ) (post : Int32 → SI → SJ → Prop) (h : p_Mo_trafficBlock a0 p1 post I J) : Met l y_Mo_trafficBlock WS rm_Mo_trafficBlock (va_Pc [.ref (Θ (14 + a0)), .int p1] (xPR D clA (tysA κ) 52 Θ (eC Θ κ) sz I J)) (xQi D clA 52 Θ (eC Θ κ) sz post) 0 0 (xA 52 Θ sz) := by
  refine xMet (cc := b_Mo_trafficBlock) (maxL := 2) (ret := (some .int)) (by decide) q_Mo_trafficBlock.1 ?_
  intro p e s m args below meth c s₁ B hml hv
  obtain ⟨hargs, hsz, hP, hK, hN, hG⟩ := hv
  have hx := B.exec
  have hb := B.bytes
  have hr := B.returns
  have hlocks := B.notSynchronized
  have hts := atoms_spec (ws := WS) B.pre
  have hown : s.vm.findClass R_Mo = some m.cls := findClass_of_methodNamed B.named
  have C : xC p m c b_Mo_trafficBlock 2 s args R_Mo D clA (tysA κ) 52 Θ sz := ⟨⟨hx, hb, hml, hown, hts⟩, hK, hN, hG, hsz⟩
  have hS : va_S (xA 52 Θ sz) s.heap s.heap [] := va_S.rf
  have hE := lg_entry_eq m [.ref (Θ (14 + a0)), .int p1] 2
  rw [← hargs] at hE
  rw [hE]
  have hl := lv_entry [.ref (Θ (14 + a0)), .int p1] (n := 2) (Nat.le_of_ble_eq_true rfl)
  generalize (lg_sl [.ref (Θ (14 + a0)), .int p1] ++ List.replicate (2 - (lg_sl [.ref (Θ (14 + a0)), .int p1]).length) Slot.unset).toArray = ls at hl ⊢
  have hl : lv_has ls 2 [(0, .ref (Θ (14 + a0))), (1, .int p1)] := hl
  unfold p_Mo_trafficBlock at h
  refine lv_aload_n hx hb d_Mo_trafficBlock_0 rfl (lv_at hl 0 rfl) ?_
  refine gfC_Mo_29 C hP h_a0 d_Mo_trafficBlock_1 ?_
  refine lv_aload_n hx hb d_Mo_trafficBlock_4 rfl (lv_at hl 0 rfl) ?_
  refine gfC_Mo_38 C hP h_a0 d_Mo_trafficBlock_5 ?_
  refine lv_icmp_eq hx hb d_Mo_trafficBlock_8 (tgt := 18) rfl (fun hc3 => ?_) (fun hc3 => ?_)
  · have h := h.1 hc3
    refine lv_aload_n hx hb d_Mo_trafficBlock_18 rfl (lv_at hl 0 rfl) ?_
    refine gfC_Mo_122 C hP h_a0 d_Mo_trafficBlock_19 ?_
    refine lv_iload_n hx hb d_Mo_trafficBlock_22 rfl (lv_at hl 1 rfl) ?_
    refine lv_ldc (v := (524287 : Int32)) hx hb hown (hts _ k_738) d_Mo_trafficBlock_23 ?_
    refine lv_iand hx hb d_Mo_trafficBlock_25 ?_
    refine lv_ixor hx hb d_Mo_trafficBlock_26 ?_
    exact x_iret hx hb hr hlocks hP hS h d_Mo_trafficBlock_27
  · have h := h.2 hc3
    refine lv_aload_n hx hb d_Mo_trafficBlock_11 rfl (lv_at hl 0 rfl) ?_
    refine x_gv (x_V C hP hS (xlt h_a0 rfl) ((eC_Mo h_a0) _ _) rfl (c_Mo_turnIdle l D κ hΘ sz a0 h_a0 I J _ h) q_Mo_turnIdle k_439 k_440 k_704 rfl rfl ⟨Nat.le_of_ble_eq_true rfl, Nat.le_of_ble_eq_true rfl⟩ rfl hl.1 rfl (Nat.le_of_ble_eq_true rfl) d_Mo_trafficBlock_12) hS (fun I1 J2 h H locs hP hS => ?_)
    refine lv_ldc (v := (524288 : Int32)) hx hb hown (hts _ k_737) d_Mo_trafficBlock_15 ?_
    exact x_iret hx hb hr hlocks hP hS h d_Mo_trafficBlock_17
set_option maxHeartbeats 4000000 in
set_option maxRecDepth 100000 in
theorem c_Mo_hear (l : Launch) (D : va_G) (κ : Nat → ClassId) {Θ : Nat → Nat} (hΘ : xJ 52 Θ) (sz : Nat) (a0 : Nat) (h_a0 : a0 < 8) (p1 : Int32) (p2 : Int32) (I : SI) (J : SJ) (post : SI → SJ → Prop) (h : p_Mo_hear a0 p1 p2 post I J) : Met l y_Mo_hear WS rm_Mo_hear (va_Pc [.ref (Θ (14 + a0)), .int p1, .int p2] (xPR D clA (tysA κ) 52 Θ (eC Θ κ) sz I J)) (xQv D clA 52 Θ (eC Θ κ) sz post) 0 0 (xA 52 Θ sz) := by
  refine xMet (cc := b_Mo_hear) (maxL := 3) (ret := none) (by decide) q_Mo_hear.1 ?_
  intro p e s m args below meth c s₁ B hml hv
  obtain ⟨hargs, hsz, hP, hK, hN, hG⟩ := hv
  have hx := B.exec
  have hb := B.bytes
  have hr := B.returns
  have hlocks := B.notSynchronized
  have hts := atoms_spec (ws := WS) B.pre
  have hown : s.vm.findClass R_Mo = some m.cls := findClass_of_methodNamed B.named
  have C : xC p m c b_Mo_hear 3 s args R_Mo D clA (tysA κ) 52 Θ sz := ⟨⟨hx, hb, hml, hown, hts⟩, hK, hN, hG, hsz⟩
  have hS : va_S (xA 52 Θ sz) s.heap s.heap [] := va_S.rf
  have hE := lg_entry_eq m [.ref (Θ (14 + a0)), .int p1, .int p2] 3
  rw [← hargs] at hE
  rw [hE]
  have hl := lv_entry [.ref (Θ (14 + a0)), .int p1, .int p2] (n := 3) (Nat.le_of_ble_eq_true rfl)
  generalize (lg_sl [.ref (Θ (14 + a0)), .int p1, .int p2] ++ List.replicate (3 - (lg_sl [.ref (Θ (14 + a0)), .int p1, .int p2]).length) Slot.unset).toArray = ls at hl ⊢
  have hl : lv_has ls 3 [(0, .ref (Θ (14 + a0))), (1, .int p1), (2, .int p2)] := hl
  unfold p_Mo_hear at h
  refine lv_aload_n hx hb d_Mo_hear_0 rfl (lv_at hl 0 rfl) ?_
  refine lv_dup hx hb d_Mo_hear_1 rfl ?_
  refine gfC_Mo_126 C hP h_a0 d_Mo_hear_2 ?_
  refine lv_iconst (v := (1 : Int32)) hx hb d_Mo_hear_5 (by decide) ?_
  refine lv_iadd hx hb d_Mo_hear_6 ?_
  refine pfC_Mo_126 C hΘ hP hS h_a0 d_Mo_hear_7 (fun H locs hP hS => ?_)
  obtain ⟨I1, eI1⟩ : ∃ y, y = xu I (14 + a0) 11 ((I (14 + a0) 11) + (1 : Int32)) := ⟨_, rfl⟩
  have hP : va_P D clA (xw 52 Θ (eC Θ κ) I1 J) H := by rw [eI1]; exact hP
  have h := h I1 eI1
  refine lv_aload_n hx hb d_Mo_hear_10 rfl (lv_at hl 0 rfl) ?_
  refine lv_iload_n hx hb d_Mo_hear_11 rfl (lv_at hl 1 rfl) ?_
  refine lv_iload_n hx hb d_Mo_hear_12 rfl (lv_at hl 2 rfl) ?_
  refine lv_ixor hx hb d_Mo_hear_13 ?_
  refine lv_ldc (v := (524287 : Int32)) hx hb hown (hts _ k_738) d_Mo_hear_14 ?_
  refine lv_iand hx hb d_Mo_hear_16 ?_
  refine pfC_Mo_41 C hΘ hP hS h_a0 d_Mo_hear_17 (fun H locs hP hS => ?_)
  obtain ⟨I2, eI2⟩ : ∃ y, y = xu I1 (14 + a0) 12 ((p1 ^^^ p2) &&& (524287 : Int32)) := ⟨_, rfl⟩
  have hP : va_P D clA (xw 52 Θ (eC Θ κ) I2 J) H := by rw [eI2]; exact hP
  have h := h I2 eI2
  exact x_vret hx hb hr hlocks hP hS h d_Mo_hear_20
set_option maxHeartbeats 4000000 in
set_option maxRecDepth 100000 in
theorem c_Mo_tell (l : Launch) (D : va_G) (κ : Nat → ClassId) {Θ : Nat → Nat} (hΘ : xJ 52 Θ) (sz : Nat) (a0 : Nat) (h_a0 : a0 < 8) (p1 : Int32) (I : SI) (J : SJ) (post : Int32 → SI → SJ → Prop) (h : p_Mo_tell a0 p1 post I J) : Met l y_Mo_tell WS rm_Mo_tell (va_Pc [.ref (Θ (14 + a0)), .int p1] (xPR D clA (tysA κ) 52 Θ (eC Θ κ) sz I J)) (xQi D clA 52 Θ (eC Θ κ) sz post) 0 0 (xA 52 Θ sz) := by
  refine xMet (cc := b_Mo_tell) (maxL := 2) (ret := (some .int)) (by decide) q_Mo_tell.1 ?_
  intro p e s m args below meth c s₁ B hml hv
  obtain ⟨hargs, hsz, hP, hK, hN, hG⟩ := hv
  have hx := B.exec
  have hb := B.bytes
  have hr := B.returns
  have hlocks := B.notSynchronized
  have hts := atoms_spec (ws := WS) B.pre
  have hown : s.vm.findClass R_Mo = some m.cls := findClass_of_methodNamed B.named
  have C : xC p m c b_Mo_tell 2 s args R_Mo D clA (tysA κ) 52 Θ sz := ⟨⟨hx, hb, hml, hown, hts⟩, hK, hN, hG, hsz⟩
  have hS : va_S (xA 52 Θ sz) s.heap s.heap [] := va_S.rf
  have hE := lg_entry_eq m [.ref (Θ (14 + a0)), .int p1] 2
  rw [← hargs] at hE
  rw [hE]
  have hl := lv_entry [.ref (Θ (14 + a0)), .int p1] (n := 2) (Nat.le_of_ble_eq_true rfl)
  generalize (lg_sl [.ref (Θ (14 + a0)), .int p1] ++ List.replicate (2 - (lg_sl [.ref (Θ (14 + a0)), .int p1]).length) Slot.unset).toArray = ls at hl ⊢
  have hl : lv_has ls 2 [(0, .ref (Θ (14 + a0))), (1, .int p1)] := hl
  unfold p_Mo_tell at h
  refine lv_iload_n hx hb d_Mo_tell_0 rfl (lv_at hl 1 rfl) ?_
  by_cases hc1 : p1 = (0 : Int32)
  · have h := h.1 hc1
    refine lv_tableIn hx hb d_Mo_tell_1 (off := 67) (tgt := 68) (by rw [hc1]; decide) (by rw [hc1]; decide) (by rw [hc1]; decide) rfl ?_
    refine lv_aload_n hx hb d_Mo_tell_68 rfl (lv_at hl 0 rfl) ?_
    refine gfC_Mo_26 C hP h_a0 d_Mo_tell_69 ?_
    exact x_iret hx hb hr hlocks hP hS h d_Mo_tell_72
  have h := h.2 hc1
  by_cases hc2 : p1 = (1 : Int32)
  · have h := h.1 hc2
    refine lv_tableIn hx hb d_Mo_tell_1 (off := 72) (tgt := 73) (by rw [hc2]; decide) (by rw [hc2]; decide) (by rw [hc2]; decide) rfl ?_
    refine lv_aload_n hx hb d_Mo_tell_73 rfl (lv_at hl 0 rfl) ?_
    refine gfC_Mo_32 C hP h_a0 d_Mo_tell_74 ?_
    exact x_iret hx hb hr hlocks hP hS h d_Mo_tell_77
  have h := h.2 hc2
  by_cases hc3 : p1 = (2 : Int32)
  · have h := h.1 hc3
    refine lv_tableIn hx hb d_Mo_tell_1 (off := 77) (tgt := 78) (by rw [hc3]; decide) (by rw [hc3]; decide) (by rw [hc3]; decide) rfl ?_
    refine lv_aload_n hx hb d_Mo_tell_78 rfl (lv_at hl 0 rfl) ?_
    refine gfC_Mo_35 C hP h_a0 d_Mo_tell_79 ?_
    exact x_iret hx hb hr hlocks hP hS h d_Mo_tell_82
  have h := h.2 hc3
  by_cases hc4 : p1 = (3 : Int32)
  · have h := h.1 hc4
    refine lv_tableIn hx hb d_Mo_tell_1 (off := 82) (tgt := 83) (by rw [hc4]; decide) (by rw [hc4]; decide) (by rw [hc4]; decide) rfl ?_
    refine lv_aload_n hx hb d_Mo_tell_83 rfl (lv_at hl 0 rfl) ?_
    refine gfC_Mo_38 C hP h_a0 d_Mo_tell_84 ?_
    exact x_iret hx hb hr hlocks hP hS h d_Mo_tell_87
  have h := h.2 hc4
  by_cases hc5 : p1 = (4 : Int32)
  · have h := h.1 hc5
    refine lv_tableIn hx hb d_Mo_tell_1 (off := 87) (tgt := 88) (by rw [hc5]; decide) (by rw [hc5]; decide) (by rw [hc5]; decide) rfl ?_
    refine lv_aload_n hx hb d_Mo_tell_88 rfl (lv_at hl 0 rfl) ?_
    refine gfC_Mo_29 C hP h_a0 d_Mo_tell_89 ?_
    exact x_iret hx hb hr hlocks hP hS h d_Mo_tell_92
  have h := h.2 hc5
  by_cases hc9 : p1 = (5 : Int32)
  · have h := h.1 hc9
    refine lv_tableIn hx hb d_Mo_tell_1 (off := 92) (tgt := 93) (by rw [hc9]; decide) (by rw [hc9]; decide) (by rw [hc9]; decide) rfl ?_
    refine lv_aload_n hx hb d_Mo_tell_93 rfl (lv_at hl 0 rfl) ?_
    refine gfC_Mo_18 C hP h_a0 d_Mo_tell_94 ?_
    refine x_gi (x_V C hP hS (xlt h_a0 rfl) ((eC_Me h_a0) _ _) rfl (c_Me_kind l D κ hΘ sz a0 h_a0 I J _ h) q_Me_kind k_246 k_247 k_245 rfl rfl ⟨Nat.le_of_ble_eq_true rfl, Nat.le_of_ble_eq_true rfl⟩ rfl hl.1 rfl (Nat.le_of_ble_eq_true rfl) d_Mo_tell_97) hS (fun r8 I6 J7 h H locs hP hS => ?_)
    exact x_iret hx hb hr hlocks hP hS h d_Mo_tell_100
  have h := h.2 hc9
  by_cases hc10 : p1 = (6 : Int32)
  · have h := h.1 hc10
    refine lv_tableIn hx hb d_Mo_tell_1 (off := 100) (tgt := 101) (by rw [hc10]; decide) (by rw [hc10]; decide) (by rw [hc10]; decide) rfl ?_
    refine lv_aload_n hx hb d_Mo_tell_101 rfl (lv_at hl 0 rfl) ?_
    refine gfC_Mo_18 C hP h_a0 d_Mo_tell_102 ?_
    refine gfC_Mo_80 C hP h_a0 d_Mo_tell_105 ?_
    exact x_iret hx hb hr hlocks hP hS h d_Mo_tell_108
  have h := h.2 hc10
  by_cases hc11 : p1 = (7 : Int32)
  · have h := h.1 hc11
    refine lv_tableIn hx hb d_Mo_tell_1 (off := 108) (tgt := 109) (by rw [hc11]; decide) (by rw [hc11]; decide) (by rw [hc11]; decide) rfl ?_
    refine lv_aload_n hx hb d_Mo_tell_109 rfl (lv_at hl 0 rfl) ?_
    refine gfC_Mo_18 C hP h_a0 d_Mo_tell_110 ?_
    refine gfC_Mo_89 C hP h_a0 d_Mo_tell_113 ?_
    exact x_iret hx hb hr hlocks hP hS h d_Mo_tell_116
  have h := h.2 hc11
  by_cases hc12 : p1 = (8 : Int32)
  · have h := h.1 hc12
    refine lv_tableIn hx hb d_Mo_tell_1 (off := 116) (tgt := 117) (by rw [hc12]; decide) (by rw [hc12]; decide) (by rw [hc12]; decide) rfl ?_
    refine lv_aload_n hx hb d_Mo_tell_117 rfl (lv_at hl 0 rfl) ?_
    refine gfC_Mo_126 C hP h_a0 d_Mo_tell_118 ?_
    exact x_iret hx hb hr hlocks hP hS h d_Mo_tell_121
  have h := h.2 hc12
  by_cases hc13 : p1 = (9 : Int32)
  · have h := h.1 hc13
    refine lv_tableIn hx hb d_Mo_tell_1 (off := 121) (tgt := 122) (by rw [hc13]; decide) (by rw [hc13]; decide) (by rw [hc13]; decide) rfl ?_
    refine lv_aload_n hx hb d_Mo_tell_122 rfl (lv_at hl 0 rfl) ?_
    refine gfC_Mo_41 C hP h_a0 d_Mo_tell_123 ?_
    exact x_iret hx hb hr hlocks hP hS h d_Mo_tell_126
  have h := h.2 hc13
  by_cases hc14 : p1 = (10 : Int32)
  · have h := h.1 hc14
    refine lv_tableIn hx hb d_Mo_tell_1 (off := 126) (tgt := 127) (by rw [hc14]; decide) (by rw [hc14]; decide) (by rw [hc14]; decide) rfl ?_
    refine lv_aload_n hx hb d_Mo_tell_127 rfl (lv_at hl 0 rfl) ?_
    refine gfC_Mo_112 C hP h_a0 d_Mo_tell_128 ?_
    exact x_iret hx hb hr hlocks hP hS h d_Mo_tell_131
  have h := h.2 hc14
  by_cases hc15 : p1 = (11 : Int32)
  · have h := h.1 hc15
    refine lv_tableIn hx hb d_Mo_tell_1 (off := 131) (tgt := 132) (by rw [hc15]; decide) (by rw [hc15]; decide) (by rw [hc15]; decide) rfl ?_
    refine lv_aload_n hx hb d_Mo_tell_132 rfl (lv_at hl 0 rfl) ?_
    refine gfC_Mo_44 C hP h_a0 d_Mo_tell_133 ?_
    exact x_iret hx hb hr hlocks hP hS h d_Mo_tell_136
  have h := h.2 hc15
  by_cases hc16 : p1 = (12 : Int32)
  · have h := h.1 hc16
    refine lv_tableIn hx hb d_Mo_tell_1 (off := 136) (tgt := 137) (by rw [hc16]; decide) (by rw [hc16]; decide) (by rw [hc16]; decide) rfl ?_
    refine lv_aload_n hx hb d_Mo_tell_137 rfl (lv_at hl 0 rfl) ?_
    refine gfC_Mo_51 C hP h_a0 d_Mo_tell_138 ?_
    exact x_iret hx hb hr hlocks hP hS h d_Mo_tell_141
  have h := h.2 hc16
  refine lv_tableOut hx hb d_Mo_tell_1 (tgt := 142) (by have hq : ∀ k : Int32, ¬ p1 = k → ¬ (p1).toInt = k.toInt := fun k hk e => hk (Int32.toInt_inj.mp e); have q0 := hq _ hc1; have q1 := hq _ hc2; have q2 := hq _ hc3; have q3 := hq _ hc4; have q4 := hq _ hc5; have q5 := hq _ hc9; have q6 := hq _ hc10; have q7 := hq _ hc11; have q8 := hq _ hc12; have q9 := hq _ hc13; have q10 := hq _ hc14; have q11 := hq _ hc15; have q12 := hq _ hc16; rw [show ((0 : Int32)).toInt = 0 from rfl] at q0; rw [show ((1 : Int32)).toInt = 1 from rfl] at q1; rw [show ((2 : Int32)).toInt = 2 from rfl] at q2; rw [show ((3 : Int32)).toInt = 3 from rfl] at q3; rw [show ((4 : Int32)).toInt = 4 from rfl] at q4; rw [show ((5 : Int32)).toInt = 5 from rfl] at q5; rw [show ((6 : Int32)).toInt = 6 from rfl] at q6; rw [show ((7 : Int32)).toInt = 7 from rfl] at q7; rw [show ((8 : Int32)).toInt = 8 from rfl] at q8; rw [show ((9 : Int32)).toInt = 9 from rfl] at q9; rw [show ((10 : Int32)).toInt = 10 from rfl] at q10; rw [show ((11 : Int32)).toInt = 11 from rfl] at q11; rw [show ((12 : Int32)).toInt = 12 from rfl] at q12; omega) rfl ?_
  refine lv_iconst (v := (-1 : Int32)) hx hb d_Mo_tell_142 (by decide) ?_
  exact x_iret hx hb hr hlocks hP hS h d_Mo_tell_143
