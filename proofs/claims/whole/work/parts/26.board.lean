theorem d_Sw_isMember_0 : decode b_Sw_isMember 0 = .ok (.aload_n 0, 1) := by decide +kernel
theorem d_Sw_isMember_1 : decode b_Sw_isMember 1 = .ok (.getfield 18, 3) := by decide +kernel
theorem d_Sw_isMember_4 : decode b_Sw_isMember 4 = .ok (.iload_n 1, 1) := by decide +kernel
theorem d_Sw_isMember_5 : decode b_Sw_isMember 5 = .ok (.iaload, 1) := by decide +kernel
theorem d_Sw_isMember_6 : decode b_Sw_isMember 6 = .ok (.iload_n 2, 1) := by decide +kernel
theorem d_Sw_isMember_7 : decode b_Sw_isMember 7 = .ok (.iushr, 1) := by decide +kernel
theorem d_Sw_isMember_8 : decode b_Sw_isMember 8 = .ok (.iconst (1), 1) := by decide +kernel
theorem d_Sw_isMember_9 : decode b_Sw_isMember 9 = .ok (.iand, 1) := by decide +kernel
theorem d_Sw_isMember_10 : decode b_Sw_isMember 10 = .ok (.ifCond .eq (7), 3) := by decide +kernel
theorem d_Sw_isMember_13 : decode b_Sw_isMember 13 = .ok (.iconst (1), 1) := by decide +kernel
theorem d_Sw_isMember_14 : decode b_Sw_isMember 14 = .ok (.goto (4), 3) := by decide +kernel
theorem d_Sw_isMember_17 : decode b_Sw_isMember 17 = .ok (.iconst (0), 1) := by decide +kernel
theorem d_Sw_isMember_18 : decode b_Sw_isMember 18 = .ok (.ireturn, 1) := by decide +kernel
theorem d_Sw_groupOn_0 : decode b_Sw_groupOn 0 = .ok (.iconst (0), 1) := by decide +kernel
theorem d_Sw_groupOn_1 : decode b_Sw_groupOn 1 = .ok (.istore_n 2, 1) := by decide +kernel
theorem d_Sw_groupOn_2 : decode b_Sw_groupOn 2 = .ok (.iload_n 2, 1) := by decide +kernel
theorem d_Sw_groupOn_3 : decode b_Sw_groupOn 3 = .ok (.iconst (4), 1) := by decide +kernel
theorem d_Sw_groupOn_4 : decode b_Sw_groupOn 4 = .ok (.if_icmp .ge (24), 3) := by decide +kernel
theorem d_Sw_groupOn_7 : decode b_Sw_groupOn 7 = .ok (.aload_n 0, 1) := by decide +kernel
theorem d_Sw_groupOn_8 : decode b_Sw_groupOn 8 = .ok (.getfield 29, 3) := by decide +kernel
theorem d_Sw_groupOn_11 : decode b_Sw_groupOn 11 = .ok (.iload_n 2, 1) := by decide +kernel
theorem d_Sw_groupOn_12 : decode b_Sw_groupOn 12 = .ok (.aaload, 1) := by decide +kernel
theorem d_Sw_groupOn_13 : decode b_Sw_groupOn 13 = .ok (.getfield 97, 3) := by decide +kernel
theorem d_Sw_groupOn_16 : decode b_Sw_groupOn 16 = .ok (.iload_n 1, 1) := by decide +kernel
theorem d_Sw_groupOn_17 : decode b_Sw_groupOn 17 = .ok (.if_icmp .ne (5), 3) := by decide +kernel
theorem d_Sw_groupOn_20 : decode b_Sw_groupOn 20 = .ok (.iload_n 2, 1) := by decide +kernel
theorem d_Sw_groupOn_21 : decode b_Sw_groupOn 21 = .ok (.ireturn, 1) := by decide +kernel
theorem d_Sw_groupOn_22 : decode b_Sw_groupOn 22 = .ok (.iinc 2 (1), 3) := by decide +kernel
theorem d_Sw_groupOn_25 : decode b_Sw_groupOn 25 = .ok (.goto (-23), 3) := by decide +kernel
theorem d_Sw_groupOn_28 : decode b_Sw_groupOn 28 = .ok (.iconst (-1), 1) := by decide +kernel
theorem d_Sw_groupOn_29 : decode b_Sw_groupOn 29 = .ok (.ireturn, 1) := by decide +kernel
theorem d_Sw_freeChannel_0 : decode b_Sw_freeChannel 0 = .ok (.iconst (1), 1) := by decide +kernel
theorem d_Sw_freeChannel_1 : decode b_Sw_freeChannel 1 = .ok (.istore_n 1, 1) := by decide +kernel
theorem d_Sw_freeChannel_2 : decode b_Sw_freeChannel 2 = .ok (.iload_n 1, 1) := by decide +kernel
theorem d_Sw_freeChannel_3 : decode b_Sw_freeChannel 3 = .ok (.iconst (3), 1) := by decide +kernel
theorem d_Sw_freeChannel_4 : decode b_Sw_freeChannel 4 = .ok (.if_icmp .gt (20), 3) := by decide +kernel
theorem d_Sw_freeChannel_7 : decode b_Sw_freeChannel 7 = .ok (.aload_n 0, 1) := by decide +kernel
theorem d_Sw_freeChannel_8 : decode b_Sw_freeChannel 8 = .ok (.iload_n 1, 1) := by decide +kernel
theorem d_Sw_freeChannel_9 : decode b_Sw_freeChannel 9 = .ok (.invokevirtual 130, 3) := by decide +kernel
theorem d_Sw_freeChannel_12 : decode b_Sw_freeChannel 12 = .ok (.iconst (-1), 1) := by decide +kernel
theorem d_Sw_freeChannel_13 : decode b_Sw_freeChannel 13 = .ok (.if_icmp .ne (5), 3) := by decide +kernel
theorem d_Sw_freeChannel_16 : decode b_Sw_freeChannel 16 = .ok (.iload_n 1, 1) := by decide +kernel
theorem d_Sw_freeChannel_17 : decode b_Sw_freeChannel 17 = .ok (.ireturn, 1) := by decide +kernel
theorem d_Sw_freeChannel_18 : decode b_Sw_freeChannel 18 = .ok (.iinc 1 (1), 3) := by decide +kernel
theorem d_Sw_freeChannel_21 : decode b_Sw_freeChannel 21 = .ok (.goto (-19), 3) := by decide +kernel
theorem d_Sw_freeChannel_24 : decode b_Sw_freeChannel 24 = .ok (.iconst (-1), 1) := by decide +kernel
theorem d_Sw_freeChannel_25 : decode b_Sw_freeChannel 25 = .ok (.ireturn, 1) := by decide +kernel
theorem d_Sw_sayToMembers_0 : decode b_Sw_sayToMembers 0 = .ok (.iconst (0), 1) := by decide +kernel
theorem d_Sw_sayToMembers_1 : decode b_Sw_sayToMembers 1 = .ok (.istore_n 3, 1) := by decide +kernel
theorem d_Sw_sayToMembers_2 : decode b_Sw_sayToMembers 2 = .ok (.iconst (0), 1) := by decide +kernel
theorem d_Sw_sayToMembers_3 : decode b_Sw_sayToMembers 3 = .ok (.istore 4, 2) := by decide +kernel
theorem d_Sw_sayToMembers_5 : decode b_Sw_sayToMembers 5 = .ok (.iload 4, 2) := by decide +kernel
theorem d_Sw_sayToMembers_7 : decode b_Sw_sayToMembers 7 = .ok (.bipush (8), 2) := by decide +kernel
theorem d_Sw_sayToMembers_9 : decode b_Sw_sayToMembers 9 = .ok (.if_icmp .ge (42), 3) := by decide +kernel
theorem d_Sw_sayToMembers_12 : decode b_Sw_sayToMembers 12 = .ok (.aload_n 0, 1) := by decide +kernel
theorem d_Sw_sayToMembers_13 : decode b_Sw_sayToMembers 13 = .ok (.getfield 15, 3) := by decide +kernel
theorem d_Sw_sayToMembers_16 : decode b_Sw_sayToMembers 16 = .ok (.iload 4, 2) := by decide +kernel
theorem d_Sw_sayToMembers_18 : decode b_Sw_sayToMembers 18 = .ok (.iaload, 1) := by decide +kernel
theorem d_Sw_sayToMembers_19 : decode b_Sw_sayToMembers 19 = .ok (.iconst (-1), 1) := by decide +kernel
theorem d_Sw_sayToMembers_20 : decode b_Sw_sayToMembers 20 = .ok (.if_icmp .eq (25), 3) := by decide +kernel
theorem d_Sw_sayToMembers_23 : decode b_Sw_sayToMembers 23 = .ok (.aload_n 0, 1) := by decide +kernel
theorem d_Sw_sayToMembers_24 : decode b_Sw_sayToMembers 24 = .ok (.iload 4, 2) := by decide +kernel
theorem d_Sw_sayToMembers_26 : decode b_Sw_sayToMembers 26 = .ok (.iload_n 1, 1) := by decide +kernel
theorem d_Sw_sayToMembers_27 : decode b_Sw_sayToMembers 27 = .ok (.invokevirtual 74, 3) := by decide +kernel
theorem d_Sw_sayToMembers_30 : decode b_Sw_sayToMembers 30 = .ok (.ifCond .eq (15), 3) := by decide +kernel
theorem d_Sw_sayToMembers_33 : decode b_Sw_sayToMembers 33 = .ok (.iload_n 3, 1) := by decide +kernel
theorem d_Sw_sayToMembers_34 : decode b_Sw_sayToMembers 34 = .ok (.iconst (1), 1) := by decide +kernel
theorem d_Sw_sayToMembers_35 : decode b_Sw_sayToMembers 35 = .ok (.aload_n 0, 1) := by decide +kernel
theorem d_Sw_sayToMembers_36 : decode b_Sw_sayToMembers 36 = .ok (.getfield 15, 3) := by decide +kernel
theorem d_Sw_sayToMembers_39 : decode b_Sw_sayToMembers 39 = .ok (.iload 4, 2) := by decide +kernel
theorem d_Sw_sayToMembers_41 : decode b_Sw_sayToMembers 41 = .ok (.iaload, 1) := by decide +kernel
theorem d_Sw_sayToMembers_42 : decode b_Sw_sayToMembers 42 = .ok (.ishl, 1) := by decide +kernel
theorem d_Sw_sayToMembers_43 : decode b_Sw_sayToMembers 43 = .ok (.ior, 1) := by decide +kernel
theorem d_Sw_sayToMembers_44 : decode b_Sw_sayToMembers 44 = .ok (.istore_n 3, 1) := by decide +kernel
theorem d_Sw_sayToMembers_45 : decode b_Sw_sayToMembers 45 = .ok (.iinc 4 (1), 3) := by decide +kernel
theorem d_Sw_sayToMembers_48 : decode b_Sw_sayToMembers 48 = .ok (.goto (-43), 3) := by decide +kernel
theorem d_Sw_sayToMembers_51 : decode b_Sw_sayToMembers 51 = .ok (.iconst (0), 1) := by decide +kernel
theorem d_Sw_sayToMembers_52 : decode b_Sw_sayToMembers 52 = .ok (.istore 4, 2) := by decide +kernel
theorem d_Sw_sayToMembers_54 : decode b_Sw_sayToMembers 54 = .ok (.iload 4, 2) := by decide +kernel
theorem d_Sw_sayToMembers_56 : decode b_Sw_sayToMembers 56 = .ok (.iconst (3), 1) := by decide +kernel
theorem d_Sw_sayToMembers_57 : decode b_Sw_sayToMembers 57 = .ok (.if_icmp .ge (29), 3) := by decide +kernel
theorem d_Sw_sayToMembers_60 : decode b_Sw_sayToMembers 60 = .ok (.iload_n 3, 1) := by decide +kernel
theorem d_Sw_sayToMembers_61 : decode b_Sw_sayToMembers 61 = .ok (.iload 4, 2) := by decide +kernel
theorem d_Sw_sayToMembers_63 : decode b_Sw_sayToMembers 63 = .ok (.iushr, 1) := by decide +kernel
theorem d_Sw_sayToMembers_64 : decode b_Sw_sayToMembers 64 = .ok (.iconst (1), 1) := by decide +kernel
theorem d_Sw_sayToMembers_65 : decode b_Sw_sayToMembers 65 = .ok (.iand, 1) := by decide +kernel
theorem d_Sw_sayToMembers_66 : decode b_Sw_sayToMembers 66 = .ok (.ifCond .eq (14), 3) := by decide +kernel
theorem d_Sw_sayToMembers_69 : decode b_Sw_sayToMembers 69 = .ok (.aload_n 0, 1) := by decide +kernel
theorem d_Sw_sayToMembers_70 : decode b_Sw_sayToMembers 70 = .ok (.getfield 36, 3) := by decide +kernel
theorem d_Sw_sayToMembers_73 : decode b_Sw_sayToMembers 73 = .ok (.iload 4, 2) := by decide +kernel
theorem d_Sw_sayToMembers_75 : decode b_Sw_sayToMembers 75 = .ok (.aaload, 1) := by decide +kernel
theorem d_Sw_sayToMembers_76 : decode b_Sw_sayToMembers 76 = .ok (.iload_n 2, 1) := by decide +kernel
theorem d_Sw_sayToMembers_77 : decode b_Sw_sayToMembers 77 = .ok (.invokevirtual 93, 3) := by decide +kernel
theorem d_Sw_sayToMembers_80 : decode b_Sw_sayToMembers 80 = .ok (.iinc 4 (1), 3) := by decide +kernel
theorem d_Sw_sayToMembers_83 : decode b_Sw_sayToMembers 83 = .ok (.goto (-29), 3) := by decide +kernel
theorem d_Sw_sayToMembers_86 : decode b_Sw_sayToMembers 86 = .ok (.return_, 1) := by decide +kernel
theorem d_Sw_serve_0 : decode b_Sw_serve 0 = .ok (.aload_n 0, 1) := by decide +kernel
theorem d_Sw_serve_1 : decode b_Sw_serve 1 = .ok (.getfield 29, 3) := by decide +kernel
theorem d_Sw_serve_4 : decode b_Sw_serve 4 = .ok (.iload_n 1, 1) := by decide +kernel
theorem d_Sw_serve_5 : decode b_Sw_serve 5 = .ok (.aaload, 1) := by decide +kernel
theorem d_Sw_serve_6 : decode b_Sw_serve 6 = .ok (.astore_n 3, 1) := by decide +kernel
theorem d_Sw_serve_7 : decode b_Sw_serve 7 = .ok (.aload_n 3, 1) := by decide +kernel
theorem d_Sw_serve_8 : decode b_Sw_serve 8 = .ok (.invokevirtual 82, 3) := by decide +kernel
theorem d_Sw_serve_11 : decode b_Sw_serve 11 = .ok (.ifCond .eq (10), 3) := by decide +kernel
theorem d_Sw_serve_14 : decode b_Sw_serve 14 = .ok (.aload_n 3, 1) := by decide +kernel
theorem d_Sw_serve_15 : decode b_Sw_serve 15 = .ok (.getfield 97, 3) := by decide +kernel
theorem d_Sw_serve_18 : decode b_Sw_serve 18 = .ok (.goto (7), 3) := by decide +kernel
theorem d_Sw_serve_21 : decode b_Sw_serve 21 = .ok (.aload_n 0, 1) := by decide +kernel
theorem d_Sw_serve_22 : decode b_Sw_serve 22 = .ok (.invokevirtual 101, 3) := by decide +kernel
theorem d_Sw_serve_25 : decode b_Sw_serve 25 = .ok (.istore 4, 2) := by decide +kernel
theorem d_Sw_serve_27 : decode b_Sw_serve 27 = .ok (.aload_n 3, 1) := by decide +kernel
theorem d_Sw_serve_28 : decode b_Sw_serve 28 = .ok (.getfield 105, 3) := by decide +kernel
theorem d_Sw_serve_31 : decode b_Sw_serve 31 = .ok (.ifCond .eq (9), 3) := by decide +kernel
theorem d_Sw_serve_34 : decode b_Sw_serve 34 = .ok (.iload 4, 2) := by decide +kernel
theorem d_Sw_serve_36 : decode b_Sw_serve 36 = .ok (.iconst (-1), 1) := by decide +kernel
theorem d_Sw_serve_37 : decode b_Sw_serve 37 = .ok (.if_icmp .ne (4), 3) := by decide +kernel
theorem d_Sw_serve_40 : decode b_Sw_serve 40 = .ok (.return_, 1) := by decide +kernel
theorem d_Sw_serve_41 : decode b_Sw_serve 41 = .ok (.aload_n 3, 1) := by decide +kernel
theorem d_Sw_serve_42 : decode b_Sw_serve 42 = .ok (.iload 4, 2) := by decide +kernel
theorem d_Sw_serve_44 : decode b_Sw_serve 44 = .ok (.putfield 97, 3) := by decide +kernel
theorem d_Sw_serve_47 : decode b_Sw_serve 47 = .ok (.aload_n 3, 1) := by decide +kernel
theorem d_Sw_serve_48 : decode b_Sw_serve 48 = .ok (.iload_n 2, 1) := by decide +kernel
theorem d_Sw_serve_49 : decode b_Sw_serve 49 = .ok (.invokevirtual 108, 3) := by decide +kernel
theorem d_Sw_serve_52 : decode b_Sw_serve 52 = .ok (.aload_n 0, 1) := by decide +kernel
theorem d_Sw_serve_53 : decode b_Sw_serve 53 = .ok (.iload_n 1, 1) := by decide +kernel
theorem d_Sw_serve_54 : decode b_Sw_serve 54 = .ok (.bipush (9), 2) := by decide +kernel
theorem d_Sw_serve_56 : decode b_Sw_serve 56 = .ok (.aload_n 3, 1) := by decide +kernel
theorem d_Sw_serve_57 : decode b_Sw_serve 57 = .ok (.getfield 111, 3) := by decide +kernel
theorem d_Sw_serve_60 : decode b_Sw_serve 60 = .ok (.iload_n 1, 1) := by decide +kernel
theorem d_Sw_serve_61 : decode b_Sw_serve 61 = .ok (.iload 4, 2) := by decide +kernel
theorem d_Sw_serve_63 : decode b_Sw_serve 63 = .ok (.iconst (0), 1) := by decide +kernel
theorem d_Sw_serve_64 : decode b_Sw_serve 64 = .ok (.invokestatic 114, 3) := by decide +kernel
theorem d_Sw_serve_67 : decode b_Sw_serve 67 = .ok (.invokevirtual 118, 3) := by decide +kernel
theorem d_Sw_serve_70 : decode b_Sw_serve 70 = .ok (.return_, 1) := by decide +kernel
theorem d_Sw_acceptRequest_0 : decode b_Sw_acceptRequest 0 = .ok (.aload_n 0, 1) := by decide +kernel
theorem d_Sw_acceptRequest_1 : decode b_Sw_acceptRequest 1 = .ok (.iload_n 1, 1) := by decide +kernel
theorem d_Sw_acceptRequest_2 : decode b_Sw_acceptRequest 2 = .ok (.iload_n 2, 1) := by decide +kernel
theorem d_Sw_acceptRequest_3 : decode b_Sw_acceptRequest 3 = .ok (.invokevirtual 74, 3) := by decide +kernel
theorem d_Sw_acceptRequest_6 : decode b_Sw_acceptRequest 6 = .ok (.ifCond .ne (4), 3) := by decide +kernel
theorem d_Sw_acceptRequest_9 : decode b_Sw_acceptRequest 9 = .ok (.return_, 1) := by decide +kernel
theorem d_Sw_acceptRequest_10 : decode b_Sw_acceptRequest 10 = .ok (.aload_n 0, 1) := by decide +kernel
theorem d_Sw_acceptRequest_11 : decode b_Sw_acceptRequest 11 = .ok (.getfield 29, 3) := by decide +kernel
theorem d_Sw_acceptRequest_14 : decode b_Sw_acceptRequest 14 = .ok (.iload_n 2, 1) := by decide +kernel
theorem d_Sw_acceptRequest_15 : decode b_Sw_acceptRequest 15 = .ok (.aaload, 1) := by decide +kernel
theorem d_Sw_acceptRequest_16 : decode b_Sw_acceptRequest 16 = .ok (.iload_n 1, 1) := by decide +kernel
theorem d_Sw_acceptRequest_17 : decode b_Sw_acceptRequest 17 = .ok (.iload_n 3, 1) := by decide +kernel
theorem d_Sw_acceptRequest_18 : decode b_Sw_acceptRequest 18 = .ok (.invokevirtual 78, 3) := by decide +kernel
theorem d_Sw_acceptRequest_21 : decode b_Sw_acceptRequest 21 = .ok (.aload_n 0, 1) := by decide +kernel
theorem d_Sw_acceptRequest_22 : decode b_Sw_acceptRequest 22 = .ok (.getfield 29, 3) := by decide +kernel
theorem d_Sw_acceptRequest_25 : decode b_Sw_acceptRequest 25 = .ok (.iload_n 2, 1) := by decide +kernel
theorem d_Sw_acceptRequest_26 : decode b_Sw_acceptRequest 26 = .ok (.aaload, 1) := by decide +kernel
theorem d_Sw_acceptRequest_27 : decode b_Sw_acceptRequest 27 = .ok (.invokevirtual 82, 3) := by decide +kernel
theorem d_Sw_acceptRequest_30 : decode b_Sw_acceptRequest 30 = .ok (.ifCond .ne (10), 3) := by decide +kernel
theorem d_Sw_acceptRequest_33 : decode b_Sw_acceptRequest 33 = .ok (.aload_n 0, 1) := by decide +kernel
theorem d_Sw_acceptRequest_34 : decode b_Sw_acceptRequest 34 = .ok (.iload_n 2, 1) := by decide +kernel
theorem d_Sw_acceptRequest_35 : decode b_Sw_acceptRequest 35 = .ok (.iload 4, 2) := by decide +kernel
theorem d_Sw_acceptRequest_37 : decode b_Sw_acceptRequest 37 = .ok (.invokevirtual 86, 3) := by decide +kernel
theorem d_Sw_acceptRequest_40 : decode b_Sw_acceptRequest 40 = .ok (.return_, 1) := by decide +kernel
theorem d_Sw_passData_0 : decode b_Sw_passData 0 = .ok (.iload_n 2, 1) := by decide +kernel
theorem d_Sw_passData_1 : decode b_Sw_passData 1 = .ok (.bipush (8), 2) := by decide +kernel
theorem d_Sw_passData_3 : decode b_Sw_passData 3 = .ok (.if_icmp .ge (35), 3) := by decide +kernel
theorem d_Sw_passData_6 : decode b_Sw_passData 6 = .ok (.aload_n 0, 1) := by decide +kernel
theorem d_Sw_passData_7 : decode b_Sw_passData 7 = .ok (.getfield 15, 3) := by decide +kernel
theorem d_Sw_passData_10 : decode b_Sw_passData 10 = .ok (.iload_n 2, 1) := by decide +kernel
theorem d_Sw_passData_11 : decode b_Sw_passData 11 = .ok (.iaload, 1) := by decide +kernel
theorem d_Sw_passData_12 : decode b_Sw_passData 12 = .ok (.iconst (-1), 1) := by decide +kernel
theorem d_Sw_passData_13 : decode b_Sw_passData 13 = .ok (.if_icmp .eq (25), 3) := by decide +kernel
theorem d_Sw_passData_16 : decode b_Sw_passData 16 = .ok (.aload_n 0, 1) := by decide +kernel
theorem d_Sw_passData_17 : decode b_Sw_passData 17 = .ok (.getfield 36, 3) := by decide +kernel
theorem d_Sw_passData_20 : decode b_Sw_passData 20 = .ok (.aload_n 0, 1) := by decide +kernel
theorem d_Sw_passData_21 : decode b_Sw_passData 21 = .ok (.getfield 15, 3) := by decide +kernel
theorem d_Sw_passData_24 : decode b_Sw_passData 24 = .ok (.iload_n 2, 1) := by decide +kernel
theorem d_Sw_passData_25 : decode b_Sw_passData 25 = .ok (.iaload, 1) := by decide +kernel
theorem d_Sw_passData_26 : decode b_Sw_passData 26 = .ok (.aaload, 1) := by decide +kernel
theorem d_Sw_passData_27 : decode b_Sw_passData 27 = .ok (.bipush (11), 2) := by decide +kernel
theorem d_Sw_passData_29 : decode b_Sw_passData 29 = .ok (.iload_n 2, 1) := by decide +kernel
theorem d_Sw_passData_30 : decode b_Sw_passData 30 = .ok (.iload_n 1, 1) := by decide +kernel
theorem d_Sw_passData_31 : decode b_Sw_passData 31 = .ok (.iload_n 3, 1) := by decide +kernel
theorem d_Sw_passData_32 : decode b_Sw_passData 32 = .ok (.invokestatic 89, 3) := by decide +kernel
theorem d_Sw_passData_35 : decode b_Sw_passData 35 = .ok (.invokevirtual 93, 3) := by decide +kernel
theorem d_Sw_passData_38 : decode b_Sw_passData 38 = .ok (.return_, 1) := by decide +kernel
theorem d_Sw_accept_0 : decode b_Sw_accept 0 = .ok (.iload_n 1, 1) := by decide +kernel
theorem d_Sw_accept_1 : decode b_Sw_accept 1 = .ok (.invokestatic 41, 3) := by decide +kernel
theorem d_Sw_accept_4 : decode b_Sw_accept 4 = .ok (.istore 4, 2) := by decide +kernel
theorem d_Sw_accept_6 : decode b_Sw_accept 6 = .ok (.iload_n 1, 1) := by decide +kernel
theorem d_Sw_accept_7 : decode b_Sw_accept 7 = .ok (.invokestatic 47, 3) := by decide +kernel
theorem d_Sw_accept_10 : decode b_Sw_accept 10 = .ok (.iconst (1), 1) := by decide +kernel
theorem d_Sw_accept_11 : decode b_Sw_accept 11 = .ok (.if_icmp .ne (36), 3) := by decide +kernel
theorem d_Sw_accept_14 : decode b_Sw_accept 14 = .ok (.iload_n 1, 1) := by decide +kernel
theorem d_Sw_accept_15 : decode b_Sw_accept 15 = .ok (.invokestatic 50, 3) := by decide +kernel
theorem d_Sw_accept_18 : decode b_Sw_accept 18 = .ok (.aload_n 0, 1) := by decide +kernel
theorem d_Sw_accept_19 : decode b_Sw_accept 19 = .ok (.getfield 9, 3) := by decide +kernel
theorem d_Sw_accept_22 : decode b_Sw_accept 22 = .ok (.iload 4, 2) := by decide +kernel
theorem d_Sw_accept_24 : decode b_Sw_accept 24 = .ok (.iaload, 1) := by decide +kernel
theorem d_Sw_accept_25 : decode b_Sw_accept 25 = .ok (.iload_n 3, 1) := by decide +kernel
theorem d_Sw_accept_26 : decode b_Sw_accept 26 = .ok (.invokestatic 53, 3) := by decide +kernel
theorem d_Sw_accept_29 : decode b_Sw_accept 29 = .ok (.sipush (511), 3) := by decide +kernel
theorem d_Sw_accept_32 : decode b_Sw_accept 32 = .ok (.iand, 1) := by decide +kernel
theorem d_Sw_accept_33 : decode b_Sw_accept 33 = .ok (.if_icmp .ne (65), 3) := by decide +kernel
theorem d_Sw_accept_36 : decode b_Sw_accept 36 = .ok (.aload_n 0, 1) := by decide +kernel
theorem d_Sw_accept_37 : decode b_Sw_accept 37 = .ok (.getfield 15, 3) := by decide +kernel
theorem d_Sw_accept_40 : decode b_Sw_accept 40 = .ok (.iload 4, 2) := by decide +kernel
theorem d_Sw_accept_42 : decode b_Sw_accept 42 = .ok (.iload_n 2, 1) := by decide +kernel
theorem d_Sw_accept_43 : decode b_Sw_accept 43 = .ok (.iastore, 1) := by decide +kernel
theorem d_Sw_accept_44 : decode b_Sw_accept 44 = .ok (.goto (54), 3) := by decide +kernel
theorem d_Sw_accept_47 : decode b_Sw_accept 47 = .ok (.aload_n 0, 1) := by decide +kernel
theorem d_Sw_accept_48 : decode b_Sw_accept 48 = .ok (.getfield 15, 3) := by decide +kernel
theorem d_Sw_accept_51 : decode b_Sw_accept 51 = .ok (.iload 4, 2) := by decide +kernel
theorem d_Sw_accept_53 : decode b_Sw_accept 53 = .ok (.iaload, 1) := by decide +kernel
theorem d_Sw_accept_54 : decode b_Sw_accept 54 = .ok (.iload_n 2, 1) := by decide +kernel
theorem d_Sw_accept_55 : decode b_Sw_accept 55 = .ok (.if_icmp .ne (43), 3) := by decide +kernel
theorem d_Sw_accept_58 : decode b_Sw_accept 58 = .ok (.iload_n 1, 1) := by decide +kernel
theorem d_Sw_accept_59 : decode b_Sw_accept 59 = .ok (.invokestatic 47, 3) := by decide +kernel
theorem d_Sw_accept_62 : decode b_Sw_accept 62 = .ok (.iconst (2), 1) := by decide +kernel
theorem d_Sw_accept_63 : decode b_Sw_accept 63 = .ok (.if_icmp .ne (21), 3) := by decide +kernel
theorem d_Sw_accept_66 : decode b_Sw_accept 66 = .ok (.aload_n 0, 1) := by decide +kernel
theorem d_Sw_accept_67 : decode b_Sw_accept 67 = .ok (.iload 4, 2) := by decide +kernel
theorem d_Sw_accept_69 : decode b_Sw_accept 69 = .ok (.iload_n 1, 1) := by decide +kernel
theorem d_Sw_accept_70 : decode b_Sw_accept 70 = .ok (.invokestatic 57, 3) := by decide +kernel
theorem d_Sw_accept_73 : decode b_Sw_accept 73 = .ok (.iload_n 1, 1) := by decide +kernel
theorem d_Sw_accept_74 : decode b_Sw_accept 74 = .ok (.invokestatic 60, 3) := by decide +kernel
theorem d_Sw_accept_77 : decode b_Sw_accept 77 = .ok (.iload_n 3, 1) := by decide +kernel
theorem d_Sw_accept_78 : decode b_Sw_accept 78 = .ok (.invokevirtual 63, 3) := by decide +kernel
theorem d_Sw_accept_81 : decode b_Sw_accept 81 = .ok (.goto (17), 3) := by decide +kernel
theorem d_Sw_accept_84 : decode b_Sw_accept 84 = .ok (.aload_n 0, 1) := by decide +kernel
theorem d_Sw_accept_85 : decode b_Sw_accept 85 = .ok (.iload 4, 2) := by decide +kernel
theorem d_Sw_accept_87 : decode b_Sw_accept 87 = .ok (.iload_n 1, 1) := by decide +kernel
theorem d_Sw_accept_88 : decode b_Sw_accept 88 = .ok (.invokestatic 67, 3) := by decide +kernel
theorem d_Sw_accept_91 : decode b_Sw_accept 91 = .ok (.iload_n 1, 1) := by decide +kernel
theorem d_Sw_accept_92 : decode b_Sw_accept 92 = .ok (.invokestatic 50, 3) := by decide +kernel
theorem d_Sw_accept_95 : decode b_Sw_accept 95 = .ok (.invokevirtual 70, 3) := by decide +kernel
theorem d_Sw_accept_98 : decode b_Sw_accept 98 = .ok (.return_, 1) := by decide +kernel
theorem d_Sw_endTurn_0 : decode b_Sw_endTurn 0 = .ok (.aload_n 0, 1) := by decide +kernel
theorem d_Sw_endTurn_1 : decode b_Sw_endTurn 1 = .ok (.getfield 29, 3) := by decide +kernel
theorem d_Sw_endTurn_4 : decode b_Sw_endTurn 4 = .ok (.iload_n 1, 1) := by decide +kernel
theorem d_Sw_endTurn_5 : decode b_Sw_endTurn 5 = .ok (.aaload, 1) := by decide +kernel
theorem d_Sw_endTurn_6 : decode b_Sw_endTurn 6 = .ok (.getfield 105, 3) := by decide +kernel
theorem d_Sw_endTurn_9 : decode b_Sw_endTurn 9 = .ok (.ifCond .le (10), 3) := by decide +kernel
theorem d_Sw_endTurn_12 : decode b_Sw_endTurn 12 = .ok (.aload_n 0, 1) := by decide +kernel
theorem d_Sw_endTurn_13 : decode b_Sw_endTurn 13 = .ok (.iload_n 1, 1) := by decide +kernel
theorem d_Sw_endTurn_14 : decode b_Sw_endTurn 14 = .ok (.iload_n 2, 1) := by decide +kernel
theorem d_Sw_endTurn_15 : decode b_Sw_endTurn 15 = .ok (.invokevirtual 86, 3) := by decide +kernel
theorem d_Sw_endTurn_18 : decode b_Sw_endTurn 18 = .ok (.return_, 1) := by decide +kernel
theorem d_Sw_endTurn_19 : decode b_Sw_endTurn 19 = .ok (.aload_n 0, 1) := by decide +kernel
theorem d_Sw_endTurn_20 : decode b_Sw_endTurn 20 = .ok (.getfield 29, 3) := by decide +kernel
theorem d_Sw_endTurn_23 : decode b_Sw_endTurn 23 = .ok (.iload_n 1, 1) := by decide +kernel
theorem d_Sw_endTurn_24 : decode b_Sw_endTurn 24 = .ok (.aaload, 1) := by decide +kernel
theorem d_Sw_endTurn_25 : decode b_Sw_endTurn 25 = .ok (.getfield 97, 3) := by decide +kernel
theorem d_Sw_endTurn_28 : decode b_Sw_endTurn 28 = .ok (.istore_n 3, 1) := by decide +kernel
theorem d_Sw_endTurn_29 : decode b_Sw_endTurn 29 = .ok (.aload_n 0, 1) := by decide +kernel
theorem d_Sw_endTurn_30 : decode b_Sw_endTurn 30 = .ok (.getfield 29, 3) := by decide +kernel
theorem d_Sw_endTurn_33 : decode b_Sw_endTurn 33 = .ok (.iload_n 1, 1) := by decide +kernel
theorem d_Sw_endTurn_34 : decode b_Sw_endTurn 34 = .ok (.aaload, 1) := by decide +kernel
theorem d_Sw_endTurn_35 : decode b_Sw_endTurn 35 = .ok (.invokevirtual 121, 3) := by decide +kernel
theorem d_Sw_endTurn_38 : decode b_Sw_endTurn 38 = .ok (.aload_n 0, 1) := by decide +kernel
theorem d_Sw_endTurn_39 : decode b_Sw_endTurn 39 = .ok (.iload_n 1, 1) := by decide +kernel
theorem d_Sw_endTurn_40 : decode b_Sw_endTurn 40 = .ok (.bipush (10), 2) := by decide +kernel
theorem d_Sw_endTurn_42 : decode b_Sw_endTurn 42 = .ok (.iconst (0), 1) := by decide +kernel
theorem d_Sw_endTurn_43 : decode b_Sw_endTurn 43 = .ok (.iload_n 1, 1) := by decide +kernel
theorem d_Sw_endTurn_44 : decode b_Sw_endTurn 44 = .ok (.iload_n 3, 1) := by decide +kernel
theorem d_Sw_endTurn_45 : decode b_Sw_endTurn 45 = .ok (.iconst (0), 1) := by decide +kernel
theorem d_Sw_endTurn_46 : decode b_Sw_endTurn 46 = .ok (.invokestatic 114, 3) := by decide +kernel
theorem d_Sw_endTurn_49 : decode b_Sw_endTurn 49 = .ok (.invokevirtual 118, 3) := by decide +kernel
theorem d_Sw_endTurn_52 : decode b_Sw_endTurn 52 = .ok (.iconst (0), 1) := by decide +kernel
theorem d_Sw_endTurn_53 : decode b_Sw_endTurn 53 = .ok (.istore 4, 2) := by decide +kernel
theorem d_Sw_endTurn_55 : decode b_Sw_endTurn 55 = .ok (.iload 4, 2) := by decide +kernel
theorem d_Sw_endTurn_57 : decode b_Sw_endTurn 57 = .ok (.iconst (4), 1) := by decide +kernel
theorem d_Sw_endTurn_58 : decode b_Sw_endTurn 58 = .ok (.if_icmp .ge (29), 3) := by decide +kernel
theorem d_Sw_endTurn_61 : decode b_Sw_endTurn 61 = .ok (.aload_n 0, 1) := by decide +kernel
theorem d_Sw_endTurn_62 : decode b_Sw_endTurn 62 = .ok (.getfield 29, 3) := by decide +kernel
theorem d_Sw_endTurn_65 : decode b_Sw_endTurn 65 = .ok (.iload 4, 2) := by decide +kernel
theorem d_Sw_endTurn_67 : decode b_Sw_endTurn 67 = .ok (.aaload, 1) := by decide +kernel
theorem d_Sw_endTurn_68 : decode b_Sw_endTurn 68 = .ok (.invokevirtual 82, 3) := by decide +kernel
theorem d_Sw_endTurn_71 : decode b_Sw_endTurn 71 = .ok (.ifCond .ne (10), 3) := by decide +kernel
theorem d_Sw_endTurn_74 : decode b_Sw_endTurn 74 = .ok (.aload_n 0, 1) := by decide +kernel
theorem d_Sw_endTurn_75 : decode b_Sw_endTurn 75 = .ok (.iload 4, 2) := by decide +kernel
theorem d_Sw_endTurn_77 : decode b_Sw_endTurn 77 = .ok (.iload_n 2, 1) := by decide +kernel
theorem d_Sw_endTurn_78 : decode b_Sw_endTurn 78 = .ok (.invokevirtual 86, 3) := by decide +kernel
theorem d_Sw_endTurn_81 : decode b_Sw_endTurn 81 = .ok (.iinc 4 (1), 3) := by decide +kernel
theorem d_Sw_endTurn_84 : decode b_Sw_endTurn 84 = .ok (.goto (-29), 3) := by decide +kernel
theorem d_Sw_endTurn_87 : decode b_Sw_endTurn 87 = .ok (.return_, 1) := by decide +kernel
theorem d_Sw_endLongTurns_0 : decode b_Sw_endLongTurns 0 = .ok (.iconst (0), 1) := by decide +kernel
theorem d_Sw_endLongTurns_1 : decode b_Sw_endLongTurns 1 = .ok (.istore_n 2, 1) := by decide +kernel
theorem d_Sw_endLongTurns_2 : decode b_Sw_endLongTurns 2 = .ok (.iload_n 2, 1) := by decide +kernel
theorem d_Sw_endLongTurns_3 : decode b_Sw_endLongTurns 3 = .ok (.iconst (4), 1) := by decide +kernel
theorem d_Sw_endLongTurns_4 : decode b_Sw_endLongTurns 4 = .ok (.if_icmp .ge (43), 3) := by decide +kernel
theorem d_Sw_endLongTurns_7 : decode b_Sw_endLongTurns 7 = .ok (.aload_n 0, 1) := by decide +kernel
theorem d_Sw_endLongTurns_8 : decode b_Sw_endLongTurns 8 = .ok (.getfield 29, 3) := by decide +kernel
theorem d_Sw_endLongTurns_11 : decode b_Sw_endLongTurns 11 = .ok (.iload_n 2, 1) := by decide +kernel
theorem d_Sw_endLongTurns_12 : decode b_Sw_endLongTurns 12 = .ok (.aaload, 1) := by decide +kernel
theorem d_Sw_endLongTurns_13 : decode b_Sw_endLongTurns 13 = .ok (.invokevirtual 82, 3) := by decide +kernel
theorem d_Sw_endLongTurns_16 : decode b_Sw_endLongTurns 16 = .ok (.ifCond .eq (25), 3) := by decide +kernel
theorem d_Sw_endLongTurns_19 : decode b_Sw_endLongTurns 19 = .ok (.iload_n 1, 1) := by decide +kernel
theorem d_Sw_endLongTurns_20 : decode b_Sw_endLongTurns 20 = .ok (.aload_n 0, 1) := by decide +kernel
theorem d_Sw_endLongTurns_21 : decode b_Sw_endLongTurns 21 = .ok (.getfield 29, 3) := by decide +kernel
theorem d_Sw_endLongTurns_24 : decode b_Sw_endLongTurns 24 = .ok (.iload_n 2, 1) := by decide +kernel
theorem d_Sw_endLongTurns_25 : decode b_Sw_endLongTurns 25 = .ok (.aaload, 1) := by decide +kernel
theorem d_Sw_endLongTurns_26 : decode b_Sw_endLongTurns 26 = .ok (.getfield 124, 3) := by decide +kernel
theorem d_Sw_endLongTurns_29 : decode b_Sw_endLongTurns 29 = .ok (.isub, 1) := by decide +kernel
theorem d_Sw_endLongTurns_30 : decode b_Sw_endLongTurns 30 = .ok (.bipush (8), 2) := by decide +kernel
theorem d_Sw_endLongTurns_32 : decode b_Sw_endLongTurns 32 = .ok (.if_icmp .lt (9), 3) := by decide +kernel
theorem d_Sw_endLongTurns_35 : decode b_Sw_endLongTurns 35 = .ok (.aload_n 0, 1) := by decide +kernel
theorem d_Sw_endLongTurns_36 : decode b_Sw_endLongTurns 36 = .ok (.iload_n 2, 1) := by decide +kernel
theorem d_Sw_endLongTurns_37 : decode b_Sw_endLongTurns 37 = .ok (.iload_n 1, 1) := by decide +kernel
theorem d_Sw_endLongTurns_38 : decode b_Sw_endLongTurns 38 = .ok (.invokevirtual 127, 3) := by decide +kernel
theorem d_Sw_endLongTurns_41 : decode b_Sw_endLongTurns 41 = .ok (.iinc 2 (1), 3) := by decide +kernel
theorem d_Sw_endLongTurns_44 : decode b_Sw_endLongTurns 44 = .ok (.goto (-42), 3) := by decide +kernel
theorem d_Sw_endLongTurns_47 : decode b_Sw_endLongTurns 47 = .ok (.return_, 1) := by decide +kernel
def p_Sw_isMember (p1 : Int32) (p2 : Int32) (post : Int32 → SI → SJ → Prop) (I : SI) (J : SJ) : Prop :=
  ∃ j1, p1 = nI j1 ∧ j1 < 8 ∧ ((((xsu (I (9) j1) p2) &&& (1 : Int32)) = (0) → post (0 : Int32) I J) ∧ (¬ ((xsu (I (9) j1) p2) &&& (1 : Int32)) = (0) → post (1 : Int32) I J))
abbrev rm_Sw_isMember : Room := { frames := 0, cells := 0, slots := 0, locals := 0 }
def p_Sw_groupOn_L2 (p1 : Int32) (post : Int32 → SI → SJ → Prop) : Nat → Int32 → SI → SJ → Prop
  | 0, _, _, _ => False
  | n + 1, v2, I, J => (((4 : Int32) ≤ v2 → post (-1 : Int32) I J) ∧ (¬ (4 : Int32) ≤ v2 → ∃ j2, v2 = nI j2 ∧ j2 < 4 ∧ ((¬ (I (38 + j2) 3) = p1 → ∀ x3, x3 = v2 + (1 : Int32) → p_Sw_groupOn_L2 p1 post n x3 I J) ∧ ((I (38 + j2) 3) = p1 → post v2 I J))))
def p_Sw_groupOn (p1 : Int32) (post : Int32 → SI → SJ → Prop) (I : SI) (J : SJ) : Prop :=
  ∀ x1, x1 = (0 : Int32) → ∃ n6, p_Sw_groupOn_L2 p1 post n6 x1 I J
abbrev rm_Sw_groupOn : Room := { frames := 0, cells := 0, slots := 0, locals := 0 }
def p_Sw_freeChannel_L2 (post : Int32 → SI → SJ → Prop) : Nat → Int32 → SI → SJ → Prop
  | 0, _, _, _ => False
  | n + 1, v1, I, J => (((3 : Int32) < v1 → post (-1 : Int32) I J) ∧ (¬ (3 : Int32) < v1 → p_Sw_groupOn v1 (fun r4 I2 J3 => ((¬ r4 = (-1 : Int32) → ∀ x5, x5 = v1 + (1 : Int32) → p_Sw_freeChannel_L2 post n x5 I2 J3) ∧ (r4 = (-1 : Int32) → post v1 I2 J3))) I J))
def p_Sw_freeChannel (post : Int32 → SI → SJ → Prop) (I : SI) (J : SJ) : Prop :=
  ∀ x1, x1 = (1 : Int32) → ∃ n8, p_Sw_freeChannel_L2 post n8 x1 I J
abbrev rm_Sw_freeChannel : Room := { frames := 1, cells := 0, slots := 0, locals := 22 }
def p_Sw_sayToMembers_45 (p1 : Int32) (p2 : Int32) (post : SI → SJ → Prop) (k5 : Int32 → Int32 → SI → SJ → Prop) (v3 : Int32) (v4 : Int32) (I : SI) (J : SJ) : Prop :=
  ∀ x4, x4 = v4 + (1 : Int32) → k5 v3 x4 I J
def p_Sw_sayToMembers_L5 (p1 : Int32) (p2 : Int32) (post : SI → SJ → Prop) (k51 : Int32 → SI → SJ → Prop) : Nat → Int32 → Int32 → SI → SJ → Prop
  | 0, _, _, _, _ => False
  | n + 1, v3, v4, I, J => (((8 : Int32) ≤ v4 → k51 v3 I J) ∧ (¬ (8 : Int32) ≤ v4 → ∃ j3, v4 = nI j3 ∧ j3 < 8 ∧ (((I (8) j3) = (-1 : Int32) → p_Sw_sayToMembers_45 p1 p2 post (p_Sw_sayToMembers_L5 p1 p2 post k51 n) v3 v4 I J) ∧ (¬ (I (8) j3) = (-1 : Int32) → p_Sw_isMember v4 p1 (fun r7 I5 J6 => ((r7 = (0) → p_Sw_sayToMembers_45 p1 p2 post (p_Sw_sayToMembers_L5 p1 p2 post k51 n) v3 v4 I5 J6) ∧ (¬ r7 = (0) → ∃ j8, v4 = nI j8 ∧ j8 < 8 ∧ ∀ x9, x9 = v3 ||| (xsl (1 : Int32) (I5 (8) j8)) → p_Sw_sayToMembers_45 p1 p2 post (p_Sw_sayToMembers_L5 p1 p2 post k51 n) x9 v4 I5 J6))) I J))))
def p_Sw_sayToMembers_80 (p1 : Int32) (p2 : Int32) (post : SI → SJ → Prop) (k54 : Int32 → Int32 → SI → SJ → Prop) (v3 : Int32) (v4 : Int32) (I : SI) (J : SJ) : Prop :=
  ∀ x17, x17 = v4 + (1 : Int32) → k54 v3 x17 I J
def p_Sw_sayToMembers_L54 (p1 : Int32) (p2 : Int32) (post : SI → SJ → Prop) : Nat → Int32 → Int32 → SI → SJ → Prop
  | 0, _, _, _, _ => False
  | n + 1, v3, v4, I, J => (((3 : Int32) ≤ v4 → post I J) ∧ (¬ (3 : Int32) ≤ v4 → ((((xsu v3 v4) &&& (1 : Int32)) = (0) → p_Sw_sayToMembers_80 p1 p2 post (p_Sw_sayToMembers_L54 p1 p2 post n) v3 v4 I J) ∧ (¬ ((xsu v3 v4) &&& (1 : Int32)) = (0) → ∃ j18, v4 = nI j18 ∧ j18 < 3 ∧ p_Ce_sayLast j18 p2 (fun I19 J20 => p_Sw_sayToMembers_80 p1 p2 post (p_Sw_sayToMembers_L54 p1 p2 post n) v3 v4 I19 J20) I J))))
def p_Sw_sayToMembers (p1 : Int32) (p2 : Int32) (post : SI → SJ → Prop) (I : SI) (J : SJ) : Prop :=
  ∀ x1, x1 = (0 : Int32) → ∀ x2, x2 = (0 : Int32) → ∃ n24, p_Sw_sayToMembers_L5 p1 p2 post (fun z13 I14 J15 => ∀ x16, x16 = (0 : Int32) → ∃ n23, p_Sw_sayToMembers_L54 p1 p2 post n23 z13 x16 I14 J15) n24 x1 x2 I J
abbrev rm_Sw_sayToMembers : Room := { frames := 1, cells := 0, slots := 0, locals := 22 }
def p_Sw_serve_25 (p1 : Int32) (p2 : Int32) (post : SI → SJ → Prop) (v3 : Nat) (s0 : Int32) (I : SI) (J : SJ) : Prop :=
  (((I (38 + v3) 1) = (0) → post I J) ∧ (¬ (I (38 + v3) 1) = (0) → ((¬ s0 = (-1 : Int32) → ∀ I8, I8 = xu I (38 + v3) 3 s0 → p_Gr_giveFloor v3 p2 (fun I9 J10 => p_Bk_of (9 : Int32) (I9 (38 + v3) 4) p1 s0 (0 : Int32) (fun r13 I11 J12 => p_Sw_sayToMembers p1 r13 (fun I14 J15 => post I14 J15) I11 J12) I9 J10) I8 J) ∧ (s0 = (-1 : Int32) → post I J))))
def p_Sw_serve (p1 : Int32) (p2 : Int32) (post : SI → SJ → Prop) (I : SI) (J : SJ) : Prop :=
  ∃ j1, p1 = nI j1 ∧ j1 < 4 ∧ p_Gr_hasCall j1 (fun r4 I2 J3 => ((r4 = (0) → p_Sw_freeChannel (fun r7 I5 J6 => p_Sw_serve_25 p1 p2 post j1 r7 I5 J6) I2 J3) ∧ (¬ r4 = (0) → p_Sw_serve_25 p1 p2 post j1 (I2 (38 + j1) 3) I2 J3))) I J
abbrev rm_Sw_serve : Room := { frames := 2, cells := 0, slots := 0, locals := 46 }
def p_Sw_acceptRequest (p1 : Int32) (p2 : Int32) (p3 : Int32) (p4 : Int32) (post : SI → SJ → Prop) (I : SI) (J : SJ) : Prop :=
  p_Sw_isMember p1 p2 (fun r3 I1 J2 => ((¬ r3 = (0) → ∃ j4, p2 = nI j4 ∧ j4 < 4 ∧ p_Gr_joinRow j4 p1 p3 (fun I5 J6 => ∃ j7, p2 = nI j7 ∧ j7 < 4 ∧ p_Gr_hasCall j7 (fun r10 I8 J9 => ((¬ r10 = (0) → post I8 J9) ∧ (r10 = (0) → p_Sw_serve p2 p4 (fun I11 J12 => post I11 J12) I8 J9))) I5 J6) I1 J2) ∧ (r3 = (0) → post I1 J2))) I J
abbrev rm_Sw_acceptRequest : Room := { frames := 3, cells := 0, slots := 0, locals := 70 }
def p_Sw_passData (p1 : Int32) (p2 : Int32) (p3 : Int32) (post : SI → SJ → Prop) (I : SI) (J : SJ) : Prop :=
  (((8 : Int32) ≤ p2 → post I J) ∧ (¬ (8 : Int32) ≤ p2 → ∃ j1, p2 = nI j1 ∧ j1 < 8 ∧ (((I (8) j1) = (-1 : Int32) → post I J) ∧ (¬ (I (8) j1) = (-1 : Int32) → ∃ j2, p2 = nI j2 ∧ j2 < 8 ∧ ∃ j3, I (8) j2 = nI j3 ∧ j3 < 3 ∧ p_Bk_ofData (11 : Int32) p2 p1 p3 (fun r6 I4 J5 => p_Ce_sayLast j3 r6 (fun I7 J8 => post I7 J8) I4 J5) I J))))
abbrev rm_Sw_passData : Room := { frames := 2, cells := 0, slots := 0, locals := 47 }
def p_Sw_accept (p1 : Int32) (p2 : Int32) (p3 : Int32) (post : SI → SJ → Prop) (I : SI) (J : SJ) : Prop :=
  p_Bk_mobileOf p1 (fun r3 I1 J2 => p_Bk_kindOf p1 (fun r6 I4 J5 => ((¬ r6 = (1 : Int32) → ∃ j7, r3 = nI j7 ∧ j7 < 8 ∧ ((¬ (I4 (8) j7) = p2 → post I4 J5) ∧ ((I4 (8) j7) = p2 → p_Bk_kindOf p1 (fun r10 I8 J9 => ((¬ r10 = (2 : Int32) → p_Bk_otherOf p1 (fun r13 I11 J12 => p_Bk_restOf p1 (fun r16 I14 J15 => p_Sw_passData r3 r13 r16 (fun I17 J18 => post I17 J18) I14 J15) I11 J12) I8 J9) ∧ (r10 = (2 : Int32) → p_Bk_groupOf p1 (fun r21 I19 J20 => p_Bk_levelOf p1 (fun r24 I22 J23 => p_Sw_acceptRequest r3 r21 r24 p3 (fun I25 J26 => post I25 J26) I22 J23) I19 J20) I8 J9))) I4 J5))) ∧ (r6 = (1 : Int32) → p_Bk_restOf p1 (fun r31 I29 J30 => ∃ j32, r3 = nI j32 ∧ j32 < 8 ∧ p_TC_mix (I29 (7) j32) p3 (fun r35 I33 J34 => ((¬ r31 = (r35 &&& (511 : Int32)) → post I33 J34) ∧ (r31 = (r35 &&& (511 : Int32)) → ∃ j36, r3 = nI j36 ∧ j36 < 8 ∧ ∀ I37, I37 = xu I33 (8) j36 p2 → post I37 J34))) I29 J30) I4 J5))) I1 J2) I J
abbrev rm_Sw_accept : Room := { frames := 4, cells := 0, slots := 0, locals := 94 }
def p_Sw_endTurn_81 (p1 : Int32) (p2 : Int32) (post : SI → SJ → Prop) (k55 : Int32 → SI → SJ → Prop) (v4 : Int32) (I : SI) (J : SJ) : Prop :=
  ∀ x17, x17 = v4 + (1 : Int32) → k55 x17 I J
def p_Sw_endTurn_L55 (p1 : Int32) (p2 : Int32) (post : SI → SJ → Prop) : Nat → Int32 → SI → SJ → Prop
  | 0, _, _, _ => False
  | n + 1, v4, I, J => (((4 : Int32) ≤ v4 → post I J) ∧ (¬ (4 : Int32) ≤ v4 → ∃ j13, v4 = nI j13 ∧ j13 < 4 ∧ p_Gr_hasCall j13 (fun r16 I14 J15 => ((¬ r16 = (0) → p_Sw_endTurn_81 p1 p2 post (p_Sw_endTurn_L55 p1 p2 post n) v4 I14 J15) ∧ (r16 = (0) → p_Sw_serve v4 p2 (fun I18 J19 => p_Sw_endTurn_81 p1 p2 post (p_Sw_endTurn_L55 p1 p2 post n) v4 I18 J19) I14 J15))) I J))
def p_Sw_endTurn (p1 : Int32) (p2 : Int32) (post : SI → SJ → Prop) (I : SI) (J : SJ) : Prop :=
  ∃ j1, p1 = nI j1 ∧ j1 < 4 ∧ (((I (38 + j1) 1) ≤ (0) → ∃ j2, p1 = nI j2 ∧ j2 < 4 ∧ ∀ x3, x3 = I (38 + j2) 3 → ∃ j4, p1 = nI j4 ∧ j4 < 4 ∧ p_Gr_endCall j4 (fun I5 J6 => p_Bk_of (10 : Int32) (0 : Int32) p1 x3 (0 : Int32) (fun r9 I7 J8 => p_Sw_sayToMembers p1 r9 (fun I10 J11 => ∀ x12, x12 = (0 : Int32) → ∃ n22, p_Sw_endTurn_L55 p1 p2 post n22 x12 I10 J11) I7 J8) I5 J6) I J) ∧ (¬ (I (38 + j1) 1) ≤ (0) → p_Sw_serve p1 p2 (fun I23 J24 => post I23 J24) I J))
abbrev rm_Sw_endTurn : Room := { frames := 3, cells := 0, slots := 0, locals := 70 }
def p_Sw_endLongTurns_41 (p1 : Int32) (post : SI → SJ → Prop) (k2 : Int32 → SI → SJ → Prop) (v2 : Int32) (I : SI) (J : SJ) : Prop :=
  ∀ x6, x6 = v2 + (1 : Int32) → k2 x6 I J
def p_Sw_endLongTurns_L2 (p1 : Int32) (post : SI → SJ → Prop) : Nat → Int32 → SI → SJ → Prop
  | 0, _, _, _ => False
  | n + 1, v2, I, J => (((4 : Int32) ≤ v2 → post I J) ∧ (¬ (4 : Int32) ≤ v2 → ∃ j2, v2 = nI j2 ∧ j2 < 4 ∧ p_Gr_hasCall j2 (fun r5 I3 J4 => ((r5 = (0) → p_Sw_endLongTurns_41 p1 post (p_Sw_endLongTurns_L2 p1 post n) v2 I3 J4) ∧ (¬ r5 = (0) → ∃ j7, v2 = nI j7 ∧ j7 < 4 ∧ (((p1 - (I3 (38 + j7) 5)) < (8 : Int32) → p_Sw_endLongTurns_41 p1 post (p_Sw_endLongTurns_L2 p1 post n) v2 I3 J4) ∧ (¬ (p1 - (I3 (38 + j7) 5)) < (8 : Int32) → p_Sw_endTurn v2 p1 (fun I8 J9 => p_Sw_endLongTurns_41 p1 post (p_Sw_endLongTurns_L2 p1 post n) v2 I8 J9) I3 J4))))) I J))
def p_Sw_endLongTurns (p1 : Int32) (post : SI → SJ → Prop) (I : SI) (J : SJ) : Prop :=
  ∀ x1, x1 = (0 : Int32) → ∃ n13, p_Sw_endLongTurns_L2 p1 post n13 x1 I J
abbrev rm_Sw_endLongTurns : Room := { frames := 4, cells := 0, slots := 0, locals := 94 }
set_option maxHeartbeats 4000000 in
set_option maxRecDepth 100000 in
theorem c_Sw_isMember (l : Launch) (D : va_G) (κ : Nat → ClassId) {Θ : Nat → Nat} (hΘ : xJ 52 Θ) (sz : Nat) (p1 : Int32) (p2 : Int32) (I : SI) (J : SJ) (post : Int32 → SI → SJ → Prop) (h : p_Sw_isMember p1 p2 post I J) : Met l y_Sw_isMember WS rm_Sw_isMember (va_Pc [.ref (Θ (6)), .int p1, .int p2] (xPR D clA (tysA κ) 52 Θ (eC Θ κ) sz I J)) (xQi D clA 52 Θ (eC Θ κ) sz post) 0 0 (xA 52 Θ sz) := by
  refine xMet (cc := b_Sw_isMember) (maxL := 3) (ret := (some .boolean)) (by decide) q_Sw_isMember.1 ?_
  intro p e s m args below meth c s₁ B hml hv
  obtain ⟨hargs, hsz, hP, hK, hN, hG⟩ := hv
  have hx := B.exec
  have hb := B.bytes
  have hr := B.returns
  have hlocks := B.notSynchronized
  have hts := atoms_spec (ws := WS) B.pre
  have hown : s.vm.findClass R_Sw = some m.cls := findClass_of_methodNamed B.named
  have C : xC p m c b_Sw_isMember 3 s args R_Sw D clA (tysA κ) 52 Θ sz := ⟨⟨hx, hb, hml, hown, hts⟩, hK, hN, hG, hsz⟩
  have hS : va_S (xA 52 Θ sz) s.heap s.heap [] := va_S.rf
  have hE := lg_entry_eq m [.ref (Θ (6)), .int p1, .int p2] 3
  rw [← hargs] at hE
  rw [hE]
  have hl := lv_entry [.ref (Θ (6)), .int p1, .int p2] (n := 3) (Nat.le_of_ble_eq_true rfl)
  generalize (lg_sl [.ref (Θ (6)), .int p1, .int p2] ++ List.replicate (3 - (lg_sl [.ref (Θ (6)), .int p1, .int p2]).length) Slot.unset).toArray = ls at hl ⊢
  have hl : lv_has ls 3 [(0, .ref (Θ (6))), (1, .int p1), (2, .int p2)] := hl
  unfold p_Sw_isMember at h
  refine lv_aload_n hx hb d_Sw_isMember_0 rfl (lv_at hl 0 rfl) ?_
  refine gfC_Sw_18 C hP d_Sw_isMember_1 ?_
  refine lv_iload_n hx hb d_Sw_isMember_4 rfl (lv_at hl 1 rfl) ?_
  obtain ⟨j1, ej1, h_j1, h⟩ := h
  refine x_iald hx hb hK hP (9) 0 (Nat.le_of_ble_eq_true rfl) eC_memberships rfl ej1 h_j1 (by decide) d_Sw_isMember_5 ?_
  refine lv_iload_n hx hb d_Sw_isMember_6 rfl (lv_at hl 2 rfl) ?_
  refine lv_iushr (v := xsu (I (9) j1) p2) hx hb d_Sw_isMember_7 rfl ?_
  refine lv_iconst (v := (1 : Int32)) hx hb d_Sw_isMember_8 (by decide) ?_
  refine lv_iand hx hb d_Sw_isMember_9 ?_
  refine lv_if_eq hx hb d_Sw_isMember_10 (tgt := 17) rfl (fun hc2 => ?_) (fun hc2 => ?_)
  · have h := h.1 hc2
    refine lv_iconst (v := (0 : Int32)) hx hb d_Sw_isMember_17 (by decide) ?_
    exact x_zret hx hb hr hlocks hP hS (by decide) h d_Sw_isMember_18
  · have h := h.2 hc2
    refine lv_iconst (v := (1 : Int32)) hx hb d_Sw_isMember_13 (by decide) ?_
    refine lv_goto hx hb d_Sw_isMember_14 (tgt := 18) rfl ?_
    exact x_zret hx hb hr hlocks hP hS (by decide) h d_Sw_isMember_18
set_option maxHeartbeats 4000000 in
set_option maxRecDepth 100000 in
theorem c_Sw_groupOn (l : Launch) (D : va_G) (κ : Nat → ClassId) {Θ : Nat → Nat} (hΘ : xJ 52 Θ) (sz : Nat) (p1 : Int32) (I : SI) (J : SJ) (post : Int32 → SI → SJ → Prop) (h : p_Sw_groupOn p1 post I J) : Met l y_Sw_groupOn WS rm_Sw_groupOn (va_Pc [.ref (Θ (6)), .int p1] (xPR D clA (tysA κ) 52 Θ (eC Θ κ) sz I J)) (xQi D clA 52 Θ (eC Θ κ) sz post) 0 0 (xA 52 Θ sz) := by
  refine xMet (cc := b_Sw_groupOn) (maxL := 3) (ret := (some .int)) (by decide) q_Sw_groupOn.1 ?_
  intro p e s m args below meth c s₁ B hml hv
  obtain ⟨hargs, hsz, hP, hK, hN, hG⟩ := hv
  have hx := B.exec
  have hb := B.bytes
  have hr := B.returns
  have hlocks := B.notSynchronized
  have hts := atoms_spec (ws := WS) B.pre
  have hown : s.vm.findClass R_Sw = some m.cls := findClass_of_methodNamed B.named
  have C : xC p m c b_Sw_groupOn 3 s args R_Sw D clA (tysA κ) 52 Θ sz := ⟨⟨hx, hb, hml, hown, hts⟩, hK, hN, hG, hsz⟩
  have hS : va_S (xA 52 Θ sz) s.heap s.heap [] := va_S.rf
  have tL2 : ∀ (n : Nat) (v2 : Int32) (I : SI) (J : SJ), p_Sw_groupOn_L2 p1 post n v2 I J → ∀ (H : Heap) (locs : List Loc) (ls : Array Slot), lv_has ls 3 [(0, .ref (Θ (6))), (1, .int p1), (2, .int v2)] → va_P D clA (xw 52 Θ (eC Θ κ) I J) H → va_S (xA 52 Θ sz) s.heap H locs → W p l e (headSpec WS rm_Sw_groupOn).room s m args below meth c H locs 0 0 (MQ below (xQi D clA 52 Θ (eC Θ κ) sz post) args s 0 0 (xA 52 Θ sz)) (F0 m 2 ls []) := by
    intro n
    induction n with
    | zero =>
      intro v2 I J h H locs ls hl hP hS
      exact h.elim
    | succ n ih =>
      intro v2 I J h H locs ls hl hP hS
      unfold p_Sw_groupOn_L2 at h
      refine lv_iload_n hx hb d_Sw_groupOn_2 rfl (lv_at hl 2 rfl) ?_
      refine lv_iconst (v := (4 : Int32)) hx hb d_Sw_groupOn_3 (by decide) ?_
      refine lv_icmp_ge hx hb d_Sw_groupOn_4 (tgt := 28) rfl (fun hc5 => ?_) (fun hc5 => ?_)
      · have h := h.1 hc5
        refine lv_iconst (v := (-1 : Int32)) hx hb d_Sw_groupOn_28 (by decide) ?_
        exact x_iret hx hb hr hlocks hP hS h d_Sw_groupOn_29
      · have h := h.2 hc5
        refine lv_aload_n hx hb d_Sw_groupOn_7 rfl (lv_at hl 0 rfl) ?_
        refine gfC_Sw_29 C hP d_Sw_groupOn_8 ?_
        refine lv_iload_n hx hb d_Sw_groupOn_11 rfl (lv_at hl 2 rfl) ?_
        obtain ⟨j2, ej2, h_j2, h⟩ := h
        refine x_aald hx hb hK hP (10) 4 (Nat.le_of_ble_eq_true rfl) eC_groups rfl ej2 h_j2 (by decide) d_Sw_groupOn_12 ?_
        refine gfC_Sw_97 C hP h_j2 d_Sw_groupOn_13 ?_
        refine lv_iload_n hx hb d_Sw_groupOn_16 rfl (lv_at hl 1 rfl) ?_
        refine lv_icmp_ne hx hb d_Sw_groupOn_17 (tgt := 22) rfl (fun hc4 => ?_) (fun hc4 => ?_)
        · have h := h.1 hc4
          obtain ⟨x3, ex3⟩ : ∃ y : Int32, y = v2 + (1 : Int32) := ⟨_, rfl⟩
          have h := h x3 ex3
          refine lv_iinc (k := 2) (v := x3) hx hb d_Sw_groupOn_22 hl rfl (by rw [ex3]; rfl) (Nat.le_of_ble_eq_true rfl) (lv' := [(2, .int x3), (0, .ref (Θ (6))), (1, .int p1)]) rfl (fun ls hl => ?_)
          refine lv_goto hx hb d_Sw_groupOn_25 (tgt := 2) rfl ?_
          exact ih _ _ _ h _ _ _ (lv_sub hl [1, 2, 0] rfl) hP hS
        · have h := h.2 hc4
          refine lv_iload_n hx hb d_Sw_groupOn_20 rfl (lv_at hl 2 rfl) ?_
          exact x_iret hx hb hr hlocks hP hS h d_Sw_groupOn_21
  have hE := lg_entry_eq m [.ref (Θ (6)), .int p1] 3
  rw [← hargs] at hE
  rw [hE]
  have hl := lv_entry [.ref (Θ (6)), .int p1] (n := 3) (Nat.le_of_ble_eq_true rfl)
  generalize (lg_sl [.ref (Θ (6)), .int p1] ++ List.replicate (3 - (lg_sl [.ref (Θ (6)), .int p1]).length) Slot.unset).toArray = ls at hl ⊢
  have hl : lv_has ls 3 [(0, .ref (Θ (6))), (1, .int p1)] := hl
  unfold p_Sw_groupOn at h
  refine lv_iconst (v := (0 : Int32)) hx hb d_Sw_groupOn_0 (by decide) ?_
  refine lv_topi (fun x1 ex1 => ?_)
  have h := h x1 ex1
  refine lv_istore_n hx hb d_Sw_groupOn_1 rfl hl (Nat.le_of_ble_eq_true rfl) (lv' := [(2, .int x1), (0, .ref (Θ (6))), (1, .int p1)]) rfl (fun ls hl => ?_)
  obtain ⟨n6, h⟩ := h
  refine tL2 n6 _ _ _ h _ _ _ (lv_sub hl [1, 2, 0] rfl) hP hS
set_option maxHeartbeats 4000000 in
set_option maxRecDepth 100000 in
theorem c_Sw_freeChannel (l : Launch) (D : va_G) (κ : Nat → ClassId) {Θ : Nat → Nat} (hΘ : xJ 52 Θ) (sz : Nat) (I : SI) (J : SJ) (post : Int32 → SI → SJ → Prop) (h : p_Sw_freeChannel post I J) : Met l y_Sw_freeChannel WS rm_Sw_freeChannel (va_Pc [.ref (Θ (6))] (xPR D clA (tysA κ) 52 Θ (eC Θ κ) sz I J)) (xQi D clA 52 Θ (eC Θ κ) sz post) 0 0 (xA 52 Θ sz) := by
  refine xMet (cc := b_Sw_freeChannel) (maxL := 2) (ret := (some .int)) (by decide) q_Sw_freeChannel.1 ?_
  intro p e s m args below meth c s₁ B hml hv
  obtain ⟨hargs, hsz, hP, hK, hN, hG⟩ := hv
  have hx := B.exec
  have hb := B.bytes
  have hr := B.returns
  have hlocks := B.notSynchronized
  have hts := atoms_spec (ws := WS) B.pre
  have hown : s.vm.findClass R_Sw = some m.cls := findClass_of_methodNamed B.named
  have C : xC p m c b_Sw_freeChannel 2 s args R_Sw D clA (tysA κ) 52 Θ sz := ⟨⟨hx, hb, hml, hown, hts⟩, hK, hN, hG, hsz⟩
  have hS : va_S (xA 52 Θ sz) s.heap s.heap [] := va_S.rf
  have tL2 : ∀ (n : Nat) (v1 : Int32) (I : SI) (J : SJ), p_Sw_freeChannel_L2 post n v1 I J → ∀ (H : Heap) (locs : List Loc) (ls : Array Slot), lv_has ls 2 [(0, .ref (Θ (6))), (1, .int v1)] → va_P D clA (xw 52 Θ (eC Θ κ) I J) H → va_S (xA 52 Θ sz) s.heap H locs → W p l e (headSpec WS rm_Sw_freeChannel).room s m args below meth c H locs 0 0 (MQ below (xQi D clA 52 Θ (eC Θ κ) sz post) args s 0 0 (xA 52 Θ sz)) (F0 m 2 ls []) := by
    intro n
    induction n with
    | zero =>
      intro v1 I J h H locs ls hl hP hS
      exact h.elim
    | succ n ih =>
      intro v1 I J h H locs ls hl hP hS
      unfold p_Sw_freeChannel_L2 at h
      refine lv_iload_n hx hb d_Sw_freeChannel_2 rfl (lv_at hl 1 rfl) ?_
      refine lv_iconst (v := (3 : Int32)) hx hb d_Sw_freeChannel_3 (by decide) ?_
      refine lv_icmp_gt hx hb d_Sw_freeChannel_4 (tgt := 24) rfl (fun hc7 => ?_) (fun hc7 => ?_)
      · have h := h.1 hc7
        refine lv_iconst (v := (-1 : Int32)) hx hb d_Sw_freeChannel_24 (by decide) ?_
        exact x_iret hx hb hr hlocks hP hS h d_Sw_freeChannel_25
      · have h := h.2 hc7
        refine lv_aload_n hx hb d_Sw_freeChannel_7 rfl (lv_at hl 0 rfl) ?_
        refine lv_iload_n hx hb d_Sw_freeChannel_8 rfl (lv_at hl 1 rfl) ?_
        refine x_gi (x_V C hP hS (Nat.le_of_ble_eq_true rfl) (eC_Sw _ _) rfl (c_Sw_groupOn l D κ hΘ sz v1 I J _ h) q_Sw_groupOn k_652 k_653 k_651 rfl rfl ⟨Nat.le_of_ble_eq_true rfl, Nat.le_of_ble_eq_true rfl⟩ rfl hl.1 rfl (Nat.le_of_ble_eq_true rfl) d_Sw_freeChannel_9) hS (fun r4 I2 J3 h H locs hP hS => ?_)
        refine lv_iconst (v := (-1 : Int32)) hx hb d_Sw_freeChannel_12 (by decide) ?_
        refine lv_icmp_ne hx hb d_Sw_freeChannel_13 (tgt := 18) rfl (fun hc6 => ?_) (fun hc6 => ?_)
        · have h := h.1 hc6
          obtain ⟨x5, ex5⟩ : ∃ y : Int32, y = v1 + (1 : Int32) := ⟨_, rfl⟩
          have h := h x5 ex5
          refine lv_iinc (k := 1) (v := x5) hx hb d_Sw_freeChannel_18 hl rfl (by rw [ex5]; rfl) (Nat.le_of_ble_eq_true rfl) (lv' := [(1, .int x5), (0, .ref (Θ (6)))]) rfl (fun ls hl => ?_)
          refine lv_goto hx hb d_Sw_freeChannel_21 (tgt := 2) rfl ?_
          exact ih _ _ _ h _ _ _ (lv_sub hl [1, 0] rfl) hP hS
        · have h := h.2 hc6
          refine lv_iload_n hx hb d_Sw_freeChannel_16 rfl (lv_at hl 1 rfl) ?_
          exact x_iret hx hb hr hlocks hP hS h d_Sw_freeChannel_17
  have hE := lg_entry_eq m [.ref (Θ (6))] 2
  rw [← hargs] at hE
  rw [hE]
  have hl := lv_entry [.ref (Θ (6))] (n := 2) (Nat.le_of_ble_eq_true rfl)
  generalize (lg_sl [.ref (Θ (6))] ++ List.replicate (2 - (lg_sl [.ref (Θ (6))]).length) Slot.unset).toArray = ls at hl ⊢
  have hl : lv_has ls 2 [(0, .ref (Θ (6)))] := hl
  unfold p_Sw_freeChannel at h
  refine lv_iconst (v := (1 : Int32)) hx hb d_Sw_freeChannel_0 (by decide) ?_
  refine lv_topi (fun x1 ex1 => ?_)
  have h := h x1 ex1
  refine lv_istore_n hx hb d_Sw_freeChannel_1 rfl hl (Nat.le_of_ble_eq_true rfl) (lv' := [(1, .int x1), (0, .ref (Θ (6)))]) rfl (fun ls hl => ?_)
  obtain ⟨n8, h⟩ := h
  refine tL2 n8 _ _ _ h _ _ _ (lv_sub hl [1, 0] rfl) hP hS
set_option maxHeartbeats 4000000 in
set_option maxRecDepth 100000 in
theorem c_Sw_sayToMembers (l : Launch) (D : va_G) (κ : Nat → ClassId) {Θ : Nat → Nat} (hΘ : xJ 52 Θ) (sz : Nat) (p1 : Int32) (p2 : Int32) (I : SI) (J : SJ) (post : SI → SJ → Prop) (h : p_Sw_sayToMembers p1 p2 post I J) : Met l y_Sw_sayToMembers WS rm_Sw_sayToMembers (va_Pc [.ref (Θ (6)), .int p1, .int p2] (xPR D clA (tysA κ) 52 Θ (eC Θ κ) sz I J)) (xQv D clA 52 Θ (eC Θ κ) sz post) 0 0 (xA 52 Θ sz) := by
  refine xMet (cc := b_Sw_sayToMembers) (maxL := 5) (ret := none) (by decide) q_Sw_sayToMembers.1 ?_
  intro p e s m args below meth c s₁ B hml hv
  obtain ⟨hargs, hsz, hP, hK, hN, hG⟩ := hv
  have hx := B.exec
  have hb := B.bytes
  have hr := B.returns
  have hlocks := B.notSynchronized
  have hts := atoms_spec (ws := WS) B.pre
  have hown : s.vm.findClass R_Sw = some m.cls := findClass_of_methodNamed B.named
  have C : xC p m c b_Sw_sayToMembers 5 s args R_Sw D clA (tysA κ) 52 Θ sz := ⟨⟨hx, hb, hml, hown, hts⟩, hK, hN, hG, hsz⟩
  have hS : va_S (xA 52 Θ sz) s.heap s.heap [] := va_S.rf
  have tJ45 : ∀ (k5 : Int32 → Int32 → SI → SJ → Prop), (∀ (v3 : Int32) (v4 : Int32) (I : SI) (J : SJ), k5 v3 v4 I J → ∀ (H : Heap) (locs : List Loc) (ls : Array Slot), lv_has ls 5 [(0, .ref (Θ (6))), (1, .int p1), (2, .int p2), (3, .int v3), (4, .int v4)] → va_P D clA (xw 52 Θ (eC Θ κ) I J) H → va_S (xA 52 Θ sz) s.heap H locs → W p l e (headSpec WS rm_Sw_sayToMembers).room s m args below meth c H locs 0 0 (MQ below (xQv D clA 52 Θ (eC Θ κ) sz post) args s 0 0 (xA 52 Θ sz)) (F0 m 5 ls [])) → ∀ (v3 : Int32) (v4 : Int32) (I : SI) (J : SJ), p_Sw_sayToMembers_45 p1 p2 post k5 v3 v4 I J → ∀ (H : Heap) (locs : List Loc) (ls : Array Slot), lv_has ls 5 [(0, .ref (Θ (6))), (1, .int p1), (2, .int p2), (3, .int v3), (4, .int v4)] → va_P D clA (xw 52 Θ (eC Θ κ) I J) H → va_S (xA 52 Θ sz) s.heap H locs → W p l e (headSpec WS rm_Sw_sayToMembers).room s m args below meth c H locs 0 0 (MQ below (xQv D clA 52 Θ (eC Θ κ) sz post) args s 0 0 (xA 52 Θ sz)) (F0 m 45 ls []) := by
    intro k5 hk5 v3 v4 I J h H locs ls hl hP hS
    unfold p_Sw_sayToMembers_45 at h
    obtain ⟨x4, ex4⟩ : ∃ y : Int32, y = v4 + (1 : Int32) := ⟨_, rfl⟩
    have h := h x4 ex4
    refine lv_iinc (k := 4) (v := x4) hx hb d_Sw_sayToMembers_45 hl rfl (by rw [ex4]; rfl) (Nat.le_of_ble_eq_true rfl) (lv' := [(4, .int x4), (0, .ref (Θ (6))), (1, .int p1), (2, .int p2), (3, .int v3)]) rfl (fun ls hl => ?_)
    refine lv_goto hx hb d_Sw_sayToMembers_48 (tgt := 5) rfl ?_
    exact hk5 _ _ _ _ h _ _ _ (lv_sub hl [1, 2, 3, 4, 0] rfl) hP hS
  have tL5 : ∀ (k51 : Int32 → SI → SJ → Prop), (∀ (v3 : Int32) (I : SI) (J : SJ), k51 v3 I J → ∀ (H : Heap) (locs : List Loc) (ls : Array Slot), lv_has ls 5 [(0, .ref (Θ (6))), (2, .int p2), (3, .int v3)] → va_P D clA (xw 52 Θ (eC Θ κ) I J) H → va_S (xA 52 Θ sz) s.heap H locs → W p l e (headSpec WS rm_Sw_sayToMembers).room s m args below meth c H locs 0 0 (MQ below (xQv D clA 52 Θ (eC Θ κ) sz post) args s 0 0 (xA 52 Θ sz)) (F0 m 51 ls [])) → ∀ (n : Nat) (v3 : Int32) (v4 : Int32) (I : SI) (J : SJ), p_Sw_sayToMembers_L5 p1 p2 post k51 n v3 v4 I J → ∀ (H : Heap) (locs : List Loc) (ls : Array Slot), lv_has ls 5 [(0, .ref (Θ (6))), (1, .int p1), (2, .int p2), (3, .int v3), (4, .int v4)] → va_P D clA (xw 52 Θ (eC Θ κ) I J) H → va_S (xA 52 Θ sz) s.heap H locs → W p l e (headSpec WS rm_Sw_sayToMembers).room s m args below meth c H locs 0 0 (MQ below (xQv D clA 52 Θ (eC Θ κ) sz post) args s 0 0 (xA 52 Θ sz)) (F0 m 5 ls []) := by
    intro k51 hk51 n
    induction n with
    | zero =>
      intro v3 v4 I J h H locs ls hl hP hS
      exact h.elim
    | succ n ih =>
      intro v3 v4 I J h H locs ls hl hP hS
      unfold p_Sw_sayToMembers_L5 at h
      refine lv_iload hx hb d_Sw_sayToMembers_5 (lv_at hl 4 rfl) ?_
      refine lv_bipush (v := (8 : Int32)) hx hb d_Sw_sayToMembers_7 (by decide) ?_
      refine lv_icmp_ge hx hb d_Sw_sayToMembers_9 (tgt := 51) rfl (fun hc12 => ?_) (fun hc12 => ?_)
      · have h := h.1 hc12
        exact hk51 _ _ _ h _ _ _ (lv_sub hl [0, 2, 3] rfl) hP hS
      · have h := h.2 hc12
        refine lv_aload_n hx hb d_Sw_sayToMembers_12 rfl (lv_at hl 0 rfl) ?_
        refine gfC_Sw_15 C hP d_Sw_sayToMembers_13 ?_
        refine lv_iload hx hb d_Sw_sayToMembers_16 (lv_at hl 4 rfl) ?_
        obtain ⟨j3, ej3, h_j3, h⟩ := h
        refine x_iald hx hb hK hP (8) 0 (Nat.le_of_ble_eq_true rfl) eC_places rfl ej3 h_j3 (by decide) d_Sw_sayToMembers_18 ?_
        refine lv_iconst (v := (-1 : Int32)) hx hb d_Sw_sayToMembers_19 (by decide) ?_
        refine lv_icmp_eq hx hb d_Sw_sayToMembers_20 (tgt := 45) rfl (fun hc11 => ?_) (fun hc11 => ?_)
        · have h := h.1 hc11
          exact tJ45 _ ih _ _ _ _ h _ _ _ (lv_sub hl [0, 1, 2, 3, 4] rfl) hP hS
        · have h := h.2 hc11
          refine lv_aload_n hx hb d_Sw_sayToMembers_23 rfl (lv_at hl 0 rfl) ?_
          refine lv_iload hx hb d_Sw_sayToMembers_24 (lv_at hl 4 rfl) ?_
          refine lv_iload_n hx hb d_Sw_sayToMembers_26 rfl (lv_at hl 1 rfl) ?_
          refine x_gi (x_V C hP hS (Nat.le_of_ble_eq_true rfl) (eC_Sw _ _) rfl (c_Sw_isMember l D κ hΘ sz v4 p1 I J _ h) q_Sw_isMember k_628 k_629 k_627 rfl rfl ⟨Nat.le_of_ble_eq_true rfl, Nat.le_of_ble_eq_true rfl⟩ rfl hl.1 rfl (Nat.le_of_ble_eq_true rfl) d_Sw_sayToMembers_27) hS (fun r7 I5 J6 h H locs hP hS => ?_)
          refine lv_if_eq hx hb d_Sw_sayToMembers_30 (tgt := 45) rfl (fun hc10 => ?_) (fun hc10 => ?_)
          · have h := h.1 hc10
            exact tJ45 _ ih _ _ _ _ h _ _ _ (lv_sub hl [0, 1, 2, 3, 4] rfl) hP hS
          · have h := h.2 hc10
            refine lv_iload_n hx hb d_Sw_sayToMembers_33 rfl (lv_at hl 3 rfl) ?_
            refine lv_iconst (v := (1 : Int32)) hx hb d_Sw_sayToMembers_34 (by decide) ?_
            refine lv_aload_n hx hb d_Sw_sayToMembers_35 rfl (lv_at hl 0 rfl) ?_
            refine gfC_Sw_15 C hP d_Sw_sayToMembers_36 ?_
            refine lv_iload hx hb d_Sw_sayToMembers_39 (lv_at hl 4 rfl) ?_
            obtain ⟨j8, ej8, h_j8, h⟩ := h
            refine x_iald hx hb hK hP (8) 0 (Nat.le_of_ble_eq_true rfl) eC_places rfl ej8 h_j8 (by decide) d_Sw_sayToMembers_41 ?_
            refine lv_ishl hx hb d_Sw_sayToMembers_42 ?_
            refine lv_ior hx hb d_Sw_sayToMembers_43 ?_
            refine lv_topi (fun x9 ex9 => ?_)
            have h := h x9 ex9
            refine lv_istore_n hx hb d_Sw_sayToMembers_44 rfl hl (Nat.le_of_ble_eq_true rfl) (lv' := [(3, .int x9), (0, .ref (Θ (6))), (1, .int p1), (2, .int p2), (4, .int v4)]) rfl (fun ls hl => ?_)
            exact tJ45 _ ih _ _ _ _ h _ _ _ (lv_sub hl [1, 2, 3, 0, 4] rfl) hP hS
  have tJ80 : ∀ (k54 : Int32 → Int32 → SI → SJ → Prop), (∀ (v3 : Int32) (v4 : Int32) (I : SI) (J : SJ), k54 v3 v4 I J → ∀ (H : Heap) (locs : List Loc) (ls : Array Slot), lv_has ls 5 [(0, .ref (Θ (6))), (2, .int p2), (3, .int v3), (4, .int v4)] → va_P D clA (xw 52 Θ (eC Θ κ) I J) H → va_S (xA 52 Θ sz) s.heap H locs → W p l e (headSpec WS rm_Sw_sayToMembers).room s m args below meth c H locs 0 0 (MQ below (xQv D clA 52 Θ (eC Θ κ) sz post) args s 0 0 (xA 52 Θ sz)) (F0 m 54 ls [])) → ∀ (v3 : Int32) (v4 : Int32) (I : SI) (J : SJ), p_Sw_sayToMembers_80 p1 p2 post k54 v3 v4 I J → ∀ (H : Heap) (locs : List Loc) (ls : Array Slot), lv_has ls 5 [(0, .ref (Θ (6))), (2, .int p2), (3, .int v3), (4, .int v4)] → va_P D clA (xw 52 Θ (eC Θ κ) I J) H → va_S (xA 52 Θ sz) s.heap H locs → W p l e (headSpec WS rm_Sw_sayToMembers).room s m args below meth c H locs 0 0 (MQ below (xQv D clA 52 Θ (eC Θ κ) sz post) args s 0 0 (xA 52 Θ sz)) (F0 m 80 ls []) := by
    intro k54 hk54 v3 v4 I J h H locs ls hl hP hS
    unfold p_Sw_sayToMembers_80 at h
    obtain ⟨x17, ex17⟩ : ∃ y : Int32, y = v4 + (1 : Int32) := ⟨_, rfl⟩
    have h := h x17 ex17
    refine lv_iinc (k := 3) (v := x17) hx hb d_Sw_sayToMembers_80 hl rfl (by rw [ex17]; rfl) (Nat.le_of_ble_eq_true rfl) (lv' := [(4, .int x17), (0, .ref (Θ (6))), (2, .int p2), (3, .int v3)]) rfl (fun ls hl => ?_)
    refine lv_goto hx hb d_Sw_sayToMembers_83 (tgt := 54) rfl ?_
    exact hk54 _ _ _ _ h _ _ _ (lv_sub hl [1, 2, 3, 0] rfl) hP hS
  have tL54 : ∀ (n : Nat) (v3 : Int32) (v4 : Int32) (I : SI) (J : SJ), p_Sw_sayToMembers_L54 p1 p2 post n v3 v4 I J → ∀ (H : Heap) (locs : List Loc) (ls : Array Slot), lv_has ls 5 [(0, .ref (Θ (6))), (2, .int p2), (3, .int v3), (4, .int v4)] → va_P D clA (xw 52 Θ (eC Θ κ) I J) H → va_S (xA 52 Θ sz) s.heap H locs → W p l e (headSpec WS rm_Sw_sayToMembers).room s m args below meth c H locs 0 0 (MQ below (xQv D clA 52 Θ (eC Θ κ) sz post) args s 0 0 (xA 52 Θ sz)) (F0 m 54 ls []) := by
    intro n
    induction n with
    | zero =>
      intro v3 v4 I J h H locs ls hl hP hS
      exact h.elim
    | succ n ih =>
      intro v3 v4 I J h H locs ls hl hP hS
      unfold p_Sw_sayToMembers_L54 at h
      refine lv_iload hx hb d_Sw_sayToMembers_54 (lv_at hl 3 rfl) ?_
      refine lv_iconst (v := (3 : Int32)) hx hb d_Sw_sayToMembers_56 (by decide) ?_
      refine lv_icmp_ge hx hb d_Sw_sayToMembers_57 (tgt := 86) rfl (fun hc22 => ?_) (fun hc22 => ?_)
      · have h := h.1 hc22
        exact x_vret hx hb hr hlocks hP hS h d_Sw_sayToMembers_86
      · have h := h.2 hc22
        refine lv_iload_n hx hb d_Sw_sayToMembers_60 rfl (lv_at hl 2 rfl) ?_
        refine lv_iload hx hb d_Sw_sayToMembers_61 (lv_at hl 3 rfl) ?_
        refine lv_iushr (v := xsu v3 v4) hx hb d_Sw_sayToMembers_63 rfl ?_
        refine lv_iconst (v := (1 : Int32)) hx hb d_Sw_sayToMembers_64 (by decide) ?_
        refine lv_iand hx hb d_Sw_sayToMembers_65 ?_
        refine lv_if_eq hx hb d_Sw_sayToMembers_66 (tgt := 80) rfl (fun hc21 => ?_) (fun hc21 => ?_)
        · have h := h.1 hc21
          exact tJ80 _ ih _ _ _ _ h _ _ _ (lv_sub hl [0, 1, 2, 3] rfl) hP hS
        · have h := h.2 hc21
          refine lv_aload_n hx hb d_Sw_sayToMembers_69 rfl (lv_at hl 0 rfl) ?_
          refine gfC_Sw_36 C hP d_Sw_sayToMembers_70 ?_
          refine lv_iload hx hb d_Sw_sayToMembers_73 (lv_at hl 3 rfl) ?_
          obtain ⟨j18, ej18, h_j18, h⟩ := h
          refine x_aald hx hb hK hP (11) 5 (Nat.le_of_ble_eq_true rfl) eC_cells rfl ej18 h_j18 (by decide) d_Sw_sayToMembers_75 ?_
          refine lv_iload_n hx hb d_Sw_sayToMembers_76 rfl (lv_at hl 1 rfl) ?_
          refine x_gv (x_V C hP hS (xlt h_j18 rfl) ((eC_Ce h_j18) _ _) rfl (c_Ce_sayLast l D κ hΘ sz j18 h_j18 p2 I J _ h) q_Ce_sayLast k_670 k_671 k_669 rfl rfl ⟨Nat.le_of_ble_eq_true rfl, Nat.le_of_ble_eq_true rfl⟩ rfl hl.1 rfl (Nat.le_of_ble_eq_true rfl) d_Sw_sayToMembers_77) hS (fun I19 J20 h H locs hP hS => ?_)
          exact tJ80 _ ih _ _ _ _ h _ _ _ (lv_sub hl [0, 1, 2, 3] rfl) hP hS
  have hE := lg_entry_eq m [.ref (Θ (6)), .int p1, .int p2] 5
  rw [← hargs] at hE
  rw [hE]
  have hl := lv_entry [.ref (Θ (6)), .int p1, .int p2] (n := 5) (Nat.le_of_ble_eq_true rfl)
  generalize (lg_sl [.ref (Θ (6)), .int p1, .int p2] ++ List.replicate (5 - (lg_sl [.ref (Θ (6)), .int p1, .int p2]).length) Slot.unset).toArray = ls at hl ⊢
  have hl : lv_has ls 5 [(0, .ref (Θ (6))), (1, .int p1), (2, .int p2)] := hl
  unfold p_Sw_sayToMembers at h
  refine lv_iconst (v := (0 : Int32)) hx hb d_Sw_sayToMembers_0 (by decide) ?_
  refine lv_topi (fun x1 ex1 => ?_)
  have h := h x1 ex1
  refine lv_istore_n hx hb d_Sw_sayToMembers_1 rfl hl (Nat.le_of_ble_eq_true rfl) (lv' := [(3, .int x1), (0, .ref (Θ (6))), (1, .int p1), (2, .int p2)]) rfl (fun ls hl => ?_)
  refine lv_iconst (v := (0 : Int32)) hx hb d_Sw_sayToMembers_2 (by decide) ?_
  refine lv_topi (fun x2 ex2 => ?_)
  have h := h x2 ex2
  refine lv_istore hx hb d_Sw_sayToMembers_3 hl (Nat.le_of_ble_eq_true rfl) (lv' := [(4, .int x2), (3, .int x1), (0, .ref (Θ (6))), (1, .int p1), (2, .int p2)]) rfl (fun ls hl => ?_)
  obtain ⟨n24, h⟩ := h
  refine tL5 _ ?_ n24 _ _ _ _ h _ _ _ (lv_sub hl [2, 3, 4, 1, 0] rfl) hP hS
  · intro z13 I14 J15 h H locs ls hl hP hS
    refine lv_iconst (v := (0 : Int32)) hx hb d_Sw_sayToMembers_51 (by decide) ?_
    refine lv_topi (fun x16 ex16 => ?_)
    have h := h x16 ex16
    refine lv_istore hx hb d_Sw_sayToMembers_52 hl (Nat.le_of_ble_eq_true rfl) (lv' := [(4, .int x16), (0, .ref (Θ (6))), (2, .int p2), (3, .int z13)]) rfl (fun ls hl => ?_)
    obtain ⟨n23, h⟩ := h
    refine tL54 n23 _ _ _ _ h _ _ _ (lv_sub hl [1, 2, 3, 0] rfl) hP hS
set_option maxHeartbeats 4000000 in
set_option maxRecDepth 100000 in
theorem c_Sw_serve (l : Launch) (D : va_G) (κ : Nat → ClassId) {Θ : Nat → Nat} (hΘ : xJ 52 Θ) (sz : Nat) (p1 : Int32) (p2 : Int32) (I : SI) (J : SJ) (post : SI → SJ → Prop) (h : p_Sw_serve p1 p2 post I J) : Met l y_Sw_serve WS rm_Sw_serve (va_Pc [.ref (Θ (6)), .int p1, .int p2] (xPR D clA (tysA κ) 52 Θ (eC Θ κ) sz I J)) (xQv D clA 52 Θ (eC Θ κ) sz post) 0 0 (xA 52 Θ sz) := by
  refine xMet (cc := b_Sw_serve) (maxL := 5) (ret := none) (by decide) q_Sw_serve.1 ?_
  intro p e s m args below meth c s₁ B hml hv
  obtain ⟨hargs, hsz, hP, hK, hN, hG⟩ := hv
  have hx := B.exec
  have hb := B.bytes
  have hr := B.returns
  have hlocks := B.notSynchronized
  have hts := atoms_spec (ws := WS) B.pre
  have hown : s.vm.findClass R_Sw = some m.cls := findClass_of_methodNamed B.named
  have C : xC p m c b_Sw_serve 5 s args R_Sw D clA (tysA κ) 52 Θ sz := ⟨⟨hx, hb, hml, hown, hts⟩, hK, hN, hG, hsz⟩
  have hS : va_S (xA 52 Θ sz) s.heap s.heap [] := va_S.rf
  have tJ25 : ∀ (v3 : Nat) (s0 : Int32) (I : SI) (J : SJ), v3 < 4 → p_Sw_serve_25 p1 p2 post v3 s0 I J → ∀ (H : Heap) (locs : List Loc) (ls : Array Slot), lv_has ls 5 [(0, .ref (Θ (6))), (1, .int p1), (2, .int p2), (3, .ref (Θ (38 + v3)))] → va_P D clA (xw 52 Θ (eC Θ κ) I J) H → va_S (xA 52 Θ sz) s.heap H locs → W p l e (headSpec WS rm_Sw_serve).room s m args below meth c H locs 0 0 (MQ below (xQv D clA 52 Θ (eC Θ κ) sz post) args s 0 0 (xA 52 Θ sz)) (F0 m 25 ls [.int s0]) := by
    intro v3 s0 I J hb_v3 h H locs ls hl hP hS
    unfold p_Sw_serve_25 at h
    refine lv_istore hx hb d_Sw_serve_25 hl (Nat.le_of_ble_eq_true rfl) (lv' := [(4, .int s0), (0, .ref (Θ (6))), (1, .int p1), (2, .int p2), (3, .ref (Θ (38 + v3)))]) rfl (fun ls hl => ?_)
    refine lv_aload_n hx hb d_Sw_serve_27 rfl (lv_at hl 4 rfl) ?_
    refine gfC_Sw_105 C hP hb_v3 d_Sw_serve_28 ?_
    refine lv_if_eq hx hb d_Sw_serve_31 (tgt := 40) rfl (fun hc17 => ?_) (fun hc17 => ?_)
    · have h := h.1 hc17
      exact x_vret hx hb hr hlocks hP hS h d_Sw_serve_40
    · have h := h.2 hc17
      refine lv_iload hx hb d_Sw_serve_34 (lv_at hl 0 rfl) ?_
      refine lv_iconst (v := (-1 : Int32)) hx hb d_Sw_serve_36 (by decide) ?_
      refine lv_icmp_ne hx hb d_Sw_serve_37 (tgt := 41) rfl (fun hc16 => ?_) (fun hc16 => ?_)
      · have h := h.1 hc16
        refine lv_aload_n hx hb d_Sw_serve_41 rfl (lv_at hl 4 rfl) ?_
        refine lv_iload hx hb d_Sw_serve_42 (lv_at hl 0 rfl) ?_
        refine pfC_Sw_97 C hΘ hP hS hb_v3 d_Sw_serve_44 (fun H locs hP hS => ?_)
        obtain ⟨I8, eI8⟩ : ∃ y, y = xu I (38 + v3) 3 s0 := ⟨_, rfl⟩
        have hP : va_P D clA (xw 52 Θ (eC Θ κ) I8 J) H := by rw [eI8]; exact hP
        have h := h I8 eI8
        refine lv_aload_n hx hb d_Sw_serve_47 rfl (lv_at hl 4 rfl) ?_
        refine lv_iload_n hx hb d_Sw_serve_48 rfl (lv_at hl 3 rfl) ?_
        refine x_gv (x_V C hP hS (xlt hb_v3 rfl) ((eC_Gr hb_v3) _ _) rfl (c_Gr_giveFloor l D κ hΘ sz v3 hb_v3 p2 I8 J _ h) q_Gr_giveFloor k_656 k_657 k_655 rfl rfl ⟨Nat.le_of_ble_eq_true rfl, Nat.le_of_ble_eq_true rfl⟩ rfl hl.1 rfl (Nat.le_of_ble_eq_true rfl) d_Sw_serve_49) hS (fun I9 J10 h H locs hP hS => ?_)
        refine lv_aload_n hx hb d_Sw_serve_52 rfl (lv_at hl 1 rfl) ?_
        refine lv_iload_n hx hb d_Sw_serve_53 rfl (lv_at hl 2 rfl) ?_
        refine lv_bipush (v := (9 : Int32)) hx hb d_Sw_serve_54 (by decide) ?_
        refine lv_aload_n hx hb d_Sw_serve_56 rfl (lv_at hl 4 rfl) ?_
        refine gfC_Sw_111 C hP hb_v3 d_Sw_serve_57 ?_
        refine lv_iload_n hx hb d_Sw_serve_60 rfl (lv_at hl 2 rfl) ?_
        refine lv_iload hx hb d_Sw_serve_61 (lv_at hl 0 rfl) ?_
        refine lv_iconst (v := (0 : Int32)) hx hb d_Sw_serve_63 (by decide) ?_
        refine x_gi (x_S C hP hS (c_Bk_of l D κ hΘ sz (9 : Int32) (I9 (38 + v3) 4) p1 s0 (0 : Int32) I9 J10 _ h) q_Bk_of k_478 k_664 rfl rfl ⟨Nat.le_of_ble_eq_true rfl, Nat.le_of_ble_eq_true rfl⟩ rfl hl.1 rfl (Nat.le_of_ble_eq_true rfl) d_Sw_serve_64) hS (fun r13 I11 J12 h H locs hP hS => ?_)
        refine x_gv (x_V C hP hS (Nat.le_of_ble_eq_true rfl) (eC_Sw _ _) rfl (c_Sw_sayToMembers l D κ hΘ sz p1 r13 I11 J12 _ h) q_Sw_sayToMembers k_667 sel_Sw_sayToMembers k_665 rfl rfl ⟨Nat.le_of_ble_eq_true rfl, Nat.le_of_ble_eq_true rfl⟩ rfl hl.1 rfl (Nat.le_of_ble_eq_true rfl) d_Sw_serve_67) hS (fun I14 J15 h H locs hP hS => ?_)
        exact x_vret hx hb hr hlocks hP hS h d_Sw_serve_70
      · have h := h.2 hc16
        exact x_vret hx hb hr hlocks hP hS h d_Sw_serve_40
  have hE := lg_entry_eq m [.ref (Θ (6)), .int p1, .int p2] 5
  rw [← hargs] at hE
  rw [hE]
  have hl := lv_entry [.ref (Θ (6)), .int p1, .int p2] (n := 5) (Nat.le_of_ble_eq_true rfl)
  generalize (lg_sl [.ref (Θ (6)), .int p1, .int p2] ++ List.replicate (5 - (lg_sl [.ref (Θ (6)), .int p1, .int p2]).length) Slot.unset).toArray = ls at hl ⊢
  have hl : lv_has ls 5 [(0, .ref (Θ (6))), (1, .int p1), (2, .int p2)] := hl
  unfold p_Sw_serve at h
  refine lv_aload_n hx hb d_Sw_serve_0 rfl (lv_at hl 0 rfl) ?_
  refine gfC_Sw_29 C hP d_Sw_serve_1 ?_
  refine lv_iload_n hx hb d_Sw_serve_4 rfl (lv_at hl 1 rfl) ?_
  obtain ⟨j1, ej1, h_j1, h⟩ := h
  refine x_aald hx hb hK hP (10) 4 (Nat.le_of_ble_eq_true rfl) eC_groups rfl ej1 h_j1 (by decide) d_Sw_serve_5 ?_
  refine lv_astore_n hx hb d_Sw_serve_6 rfl hl (Nat.le_of_ble_eq_true rfl) (lv' := [(3, .ref (Θ (38 + j1))), (0, .ref (Θ (6))), (1, .int p1), (2, .int p2)]) rfl (fun ls hl => ?_)
  refine lv_aload_n hx hb d_Sw_serve_7 rfl (lv_at hl 0 rfl) ?_
  refine x_gi (x_V C hP hS (xlt h_j1 rfl) ((eC_Gr h_j1) _ _) rfl (c_Gr_hasCall l D κ hΘ sz j1 h_j1 I J _ h) q_Gr_hasCall k_640 k_641 k_639 rfl rfl ⟨Nat.le_of_ble_eq_true rfl, Nat.le_of_ble_eq_true rfl⟩ rfl hl.1 rfl (Nat.le_of_ble_eq_true rfl) d_Sw_serve_8) hS (fun r4 I2 J3 h H locs hP hS => ?_)
  refine lv_if_eq hx hb d_Sw_serve_11 (tgt := 21) rfl (fun hc18 => ?_) (fun hc18 => ?_)
  · have h := h.1 hc18
    refine lv_aload_n hx hb d_Sw_serve_21 rfl (lv_at hl 1 rfl) ?_
    refine x_gi (x_V C hP hS (Nat.le_of_ble_eq_true rfl) (eC_Sw _ _) rfl (c_Sw_freeChannel l D κ hΘ sz I2 J3 _ h) q_Sw_freeChannel k_649 sel_Sw_freeChannel k_647 rfl rfl ⟨Nat.le_of_ble_eq_true rfl, Nat.le_of_ble_eq_true rfl⟩ rfl hl.1 rfl (Nat.le_of_ble_eq_true rfl) d_Sw_serve_22) hS (fun r7 I5 J6 h H locs hP hS => ?_)
    exact tJ25 _ _ _ _ h_j1 h _ _ _ (lv_sub hl [1, 2, 3, 0] rfl) hP hS
  · have h := h.2 hc18
    refine lv_aload_n hx hb d_Sw_serve_14 rfl (lv_at hl 0 rfl) ?_
    refine gfC_Sw_97 C hP h_j1 d_Sw_serve_15 ?_
    refine lv_goto hx hb d_Sw_serve_18 (tgt := 25) rfl ?_
    exact tJ25 _ _ _ _ h_j1 h _ _ _ (lv_sub hl [1, 2, 3, 0] rfl) hP hS
set_option maxHeartbeats 4000000 in
set_option maxRecDepth 100000 in
theorem c_Sw_acceptRequest (l : Launch) (D : va_G) (κ : Nat → ClassId) {Θ : Nat → Nat} (hΘ : xJ 52 Θ) (sz : Nat) (p1 : Int32) (p2 : Int32) (p3 : Int32) (p4 : Int32) (I : SI) (J : SJ) (post : SI → SJ → Prop) (h : p_Sw_acceptRequest p1 p2 p3 p4 post I J) : Met l y_Sw_acceptRequest WS rm_Sw_acceptRequest (va_Pc [.ref (Θ (6)), .int p1, .int p2, .int p3, .int p4] (xPR D clA (tysA κ) 52 Θ (eC Θ κ) sz I J)) (xQv D clA 52 Θ (eC Θ κ) sz post) 0 0 (xA 52 Θ sz) := by
  refine xMet (cc := b_Sw_acceptRequest) (maxL := 5) (ret := none) (by decide) q_Sw_acceptRequest.1 ?_
  intro p e s m args below meth c s₁ B hml hv
  obtain ⟨hargs, hsz, hP, hK, hN, hG⟩ := hv
  have hx := B.exec
  have hb := B.bytes
  have hr := B.returns
  have hlocks := B.notSynchronized
  have hts := atoms_spec (ws := WS) B.pre
  have hown : s.vm.findClass R_Sw = some m.cls := findClass_of_methodNamed B.named
  have C : xC p m c b_Sw_acceptRequest 5 s args R_Sw D clA (tysA κ) 52 Θ sz := ⟨⟨hx, hb, hml, hown, hts⟩, hK, hN, hG, hsz⟩
  have hS : va_S (xA 52 Θ sz) s.heap s.heap [] := va_S.rf
  have hE := lg_entry_eq m [.ref (Θ (6)), .int p1, .int p2, .int p3, .int p4] 5
  rw [← hargs] at hE
  rw [hE]
  have hl := lv_entry [.ref (Θ (6)), .int p1, .int p2, .int p3, .int p4] (n := 5) (Nat.le_of_ble_eq_true rfl)
  generalize (lg_sl [.ref (Θ (6)), .int p1, .int p2, .int p3, .int p4] ++ List.replicate (5 - (lg_sl [.ref (Θ (6)), .int p1, .int p2, .int p3, .int p4]).length) Slot.unset).toArray = ls at hl ⊢
  have hl : lv_has ls 5 [(0, .ref (Θ (6))), (1, .int p1), (2, .int p2), (3, .int p3), (4, .int p4)] := hl
  unfold p_Sw_acceptRequest at h
  refine lv_aload_n hx hb d_Sw_acceptRequest_0 rfl (lv_at hl 0 rfl) ?_
  refine lv_iload_n hx hb d_Sw_acceptRequest_1 rfl (lv_at hl 1 rfl) ?_
  refine lv_iload_n hx hb d_Sw_acceptRequest_2 rfl (lv_at hl 2 rfl) ?_
  refine x_gi (x_V C hP hS (Nat.le_of_ble_eq_true rfl) (eC_Sw _ _) rfl (c_Sw_isMember l D κ hΘ sz p1 p2 I J _ h) q_Sw_isMember k_628 k_629 k_627 rfl rfl ⟨Nat.le_of_ble_eq_true rfl, Nat.le_of_ble_eq_true rfl⟩ rfl hl.1 rfl (Nat.le_of_ble_eq_true rfl) d_Sw_acceptRequest_3) hS (fun r3 I1 J2 h H locs hP hS => ?_)
  refine lv_if_ne hx hb d_Sw_acceptRequest_6 (tgt := 10) rfl (fun hc14 => ?_) (fun hc14 => ?_)
  · have h := h.1 hc14
    refine lv_aload_n hx hb d_Sw_acceptRequest_10 rfl (lv_at hl 0 rfl) ?_
    refine gfC_Sw_29 C hP d_Sw_acceptRequest_11 ?_
    refine lv_iload_n hx hb d_Sw_acceptRequest_14 rfl (lv_at hl 2 rfl) ?_
    obtain ⟨j4, ej4, h_j4, h⟩ := h
    refine x_aald hx hb hK hP (10) 4 (Nat.le_of_ble_eq_true rfl) eC_groups rfl ej4 h_j4 (by decide) d_Sw_acceptRequest_15 ?_
    refine lv_iload_n hx hb d_Sw_acceptRequest_16 rfl (lv_at hl 1 rfl) ?_
    refine lv_iload_n hx hb d_Sw_acceptRequest_17 rfl (lv_at hl 3 rfl) ?_
    refine x_gv (x_V C hP hS (xlt h_j4 rfl) ((eC_Gr h_j4) _ _) rfl (c_Gr_joinRow l D κ hΘ sz j4 h_j4 p1 p3 I1 J2 _ h) q_Gr_joinRow k_632 k_633 k_631 rfl rfl ⟨Nat.le_of_ble_eq_true rfl, Nat.le_of_ble_eq_true rfl⟩ rfl hl.1 rfl (Nat.le_of_ble_eq_true rfl) d_Sw_acceptRequest_18) hS (fun I5 J6 h H locs hP hS => ?_)
    refine lv_aload_n hx hb d_Sw_acceptRequest_21 rfl (lv_at hl 0 rfl) ?_
    refine gfC_Sw_29 C hP d_Sw_acceptRequest_22 ?_
    refine lv_iload_n hx hb d_Sw_acceptRequest_25 rfl (lv_at hl 2 rfl) ?_
    obtain ⟨j7, ej7, h_j7, h⟩ := h
    refine x_aald hx hb hK hP (10) 4 (Nat.le_of_ble_eq_true rfl) eC_groups rfl ej7 h_j7 (by decide) d_Sw_acceptRequest_26 ?_
    refine x_gi (x_V C hP hS (xlt h_j7 rfl) ((eC_Gr h_j7) _ _) rfl (c_Gr_hasCall l D κ hΘ sz j7 h_j7 I5 J6 _ h) q_Gr_hasCall k_640 k_641 k_639 rfl rfl ⟨Nat.le_of_ble_eq_true rfl, Nat.le_of_ble_eq_true rfl⟩ rfl hl.1 rfl (Nat.le_of_ble_eq_true rfl) d_Sw_acceptRequest_27) hS (fun r10 I8 J9 h H locs hP hS => ?_)
    refine lv_if_ne hx hb d_Sw_acceptRequest_30 (tgt := 40) rfl (fun hc13 => ?_) (fun hc13 => ?_)
    · have h := h.1 hc13
      exact x_vret hx hb hr hlocks hP hS h d_Sw_acceptRequest_40
    · have h := h.2 hc13
      refine lv_aload_n hx hb d_Sw_acceptRequest_33 rfl (lv_at hl 0 rfl) ?_
      refine lv_iload_n hx hb d_Sw_acceptRequest_34 rfl (lv_at hl 2 rfl) ?_
      refine lv_iload hx hb d_Sw_acceptRequest_35 (lv_at hl 4 rfl) ?_
      refine x_gv (x_V C hP hS (Nat.le_of_ble_eq_true rfl) (eC_Sw _ _) rfl (c_Sw_serve l D κ hΘ sz p2 p4 I8 J9 _ h) q_Sw_serve k_645 sel_Sw_serve k_643 rfl rfl ⟨Nat.le_of_ble_eq_true rfl, Nat.le_of_ble_eq_true rfl⟩ rfl hl.1 rfl (Nat.le_of_ble_eq_true rfl) d_Sw_acceptRequest_37) hS (fun I11 J12 h H locs hP hS => ?_)
      exact x_vret hx hb hr hlocks hP hS h d_Sw_acceptRequest_40
  · have h := h.2 hc14
    exact x_vret hx hb hr hlocks hP hS h d_Sw_acceptRequest_9
set_option maxHeartbeats 4000000 in
set_option maxRecDepth 100000 in
theorem c_Sw_passData (l : Launch) (D : va_G) (κ : Nat → ClassId) {Θ : Nat → Nat} (hΘ : xJ 52 Θ) (sz : Nat) (p1 : Int32) (p2 : Int32) (p3 : Int32) (I : SI) (J : SJ) (post : SI → SJ → Prop) (h : p_Sw_passData p1 p2 p3 post I J) : Met l y_Sw_passData WS rm_Sw_passData (va_Pc [.ref (Θ (6)), .int p1, .int p2, .int p3] (xPR D clA (tysA κ) 52 Θ (eC Θ κ) sz I J)) (xQv D clA 52 Θ (eC Θ κ) sz post) 0 0 (xA 52 Θ sz) := by
  refine xMet (cc := b_Sw_passData) (maxL := 4) (ret := none) (by decide) q_Sw_passData.1 ?_
  intro p e s m args below meth c s₁ B hml hv
  obtain ⟨hargs, hsz, hP, hK, hN, hG⟩ := hv
  have hx := B.exec
  have hb := B.bytes
  have hr := B.returns
  have hlocks := B.notSynchronized
  have hts := atoms_spec (ws := WS) B.pre
  have hown : s.vm.findClass R_Sw = some m.cls := findClass_of_methodNamed B.named
  have C : xC p m c b_Sw_passData 4 s args R_Sw D clA (tysA κ) 52 Θ sz := ⟨⟨hx, hb, hml, hown, hts⟩, hK, hN, hG, hsz⟩
  have hS : va_S (xA 52 Θ sz) s.heap s.heap [] := va_S.rf
  have hE := lg_entry_eq m [.ref (Θ (6)), .int p1, .int p2, .int p3] 4
  rw [← hargs] at hE
  rw [hE]
  have hl := lv_entry [.ref (Θ (6)), .int p1, .int p2, .int p3] (n := 4) (Nat.le_of_ble_eq_true rfl)
  generalize (lg_sl [.ref (Θ (6)), .int p1, .int p2, .int p3] ++ List.replicate (4 - (lg_sl [.ref (Θ (6)), .int p1, .int p2, .int p3]).length) Slot.unset).toArray = ls at hl ⊢
  have hl : lv_has ls 4 [(0, .ref (Θ (6))), (1, .int p1), (2, .int p2), (3, .int p3)] := hl
  unfold p_Sw_passData at h
  refine lv_iload_n hx hb d_Sw_passData_0 rfl (lv_at hl 2 rfl) ?_
  refine lv_bipush (v := (8 : Int32)) hx hb d_Sw_passData_1 (by decide) ?_
  refine lv_icmp_ge hx hb d_Sw_passData_3 (tgt := 38) rfl (fun hc10 => ?_) (fun hc10 => ?_)
  · have h := h.1 hc10
    exact x_vret hx hb hr hlocks hP hS h d_Sw_passData_38
  · have h := h.2 hc10
    refine lv_aload_n hx hb d_Sw_passData_6 rfl (lv_at hl 0 rfl) ?_
    refine gfC_Sw_15 C hP d_Sw_passData_7 ?_
    refine lv_iload_n hx hb d_Sw_passData_10 rfl (lv_at hl 2 rfl) ?_
    obtain ⟨j1, ej1, h_j1, h⟩ := h
    refine x_iald hx hb hK hP (8) 0 (Nat.le_of_ble_eq_true rfl) eC_places rfl ej1 h_j1 (by decide) d_Sw_passData_11 ?_
    refine lv_iconst (v := (-1 : Int32)) hx hb d_Sw_passData_12 (by decide) ?_
    refine lv_icmp_eq hx hb d_Sw_passData_13 (tgt := 38) rfl (fun hc9 => ?_) (fun hc9 => ?_)
    · have h := h.1 hc9
      exact x_vret hx hb hr hlocks hP hS h d_Sw_passData_38
    · have h := h.2 hc9
      refine lv_aload_n hx hb d_Sw_passData_16 rfl (lv_at hl 0 rfl) ?_
      refine gfC_Sw_36 C hP d_Sw_passData_17 ?_
      refine lv_aload_n hx hb d_Sw_passData_20 rfl (lv_at hl 0 rfl) ?_
      refine gfC_Sw_15 C hP d_Sw_passData_21 ?_
      refine lv_iload_n hx hb d_Sw_passData_24 rfl (lv_at hl 2 rfl) ?_
      obtain ⟨j2, ej2, h_j2, h⟩ := h
      refine x_iald hx hb hK hP (8) 0 (Nat.le_of_ble_eq_true rfl) eC_places rfl ej2 h_j2 (by decide) d_Sw_passData_25 ?_
      obtain ⟨j3, ej3, h_j3, h⟩ := h
      refine x_aald hx hb hK hP (11) 5 (Nat.le_of_ble_eq_true rfl) eC_cells rfl ej3 h_j3 (by decide) d_Sw_passData_26 ?_
      refine lv_bipush (v := (11 : Int32)) hx hb d_Sw_passData_27 (by decide) ?_
      refine lv_iload_n hx hb d_Sw_passData_29 rfl (lv_at hl 2 rfl) ?_
      refine lv_iload_n hx hb d_Sw_passData_30 rfl (lv_at hl 1 rfl) ?_
      refine lv_iload_n hx hb d_Sw_passData_31 rfl (lv_at hl 3 rfl) ?_
      refine x_gi (x_S C hP hS (c_Bk_ofData l D κ hΘ sz (11 : Int32) p2 p1 p3 I J _ h) q_Bk_ofData k_505 k_680 rfl rfl ⟨Nat.le_of_ble_eq_true rfl, Nat.le_of_ble_eq_true rfl⟩ rfl hl.1 rfl (Nat.le_of_ble_eq_true rfl) d_Sw_passData_32) hS (fun r6 I4 J5 h H locs hP hS => ?_)
      refine x_gv (x_V C hP hS (xlt h_j3 rfl) ((eC_Ce h_j3) _ _) rfl (c_Ce_sayLast l D κ hΘ sz j3 h_j3 r6 I4 J5 _ h) q_Ce_sayLast k_670 k_671 k_669 rfl rfl ⟨Nat.le_of_ble_eq_true rfl, Nat.le_of_ble_eq_true rfl⟩ rfl hl.1 rfl (Nat.le_of_ble_eq_true rfl) d_Sw_passData_35) hS (fun I7 J8 h H locs hP hS => ?_)
      exact x_vret hx hb hr hlocks hP hS h d_Sw_passData_38
set_option maxHeartbeats 4000000 in
set_option maxRecDepth 100000 in
theorem c_Sw_accept (l : Launch) (D : va_G) (κ : Nat → ClassId) {Θ : Nat → Nat} (hΘ : xJ 52 Θ) (sz : Nat) (p1 : Int32) (p2 : Int32) (p3 : Int32) (I : SI) (J : SJ) (post : SI → SJ → Prop) (h : p_Sw_accept p1 p2 p3 post I J) : Met l y_Sw_accept WS rm_Sw_accept (va_Pc [.ref (Θ (6)), .int p1, .int p2, .int p3] (xPR D clA (tysA κ) 52 Θ (eC Θ κ) sz I J)) (xQv D clA 52 Θ (eC Θ κ) sz post) 0 0 (xA 52 Θ sz) := by
  refine xMet (cc := b_Sw_accept) (maxL := 5) (ret := none) (by decide) q_Sw_accept.1 ?_
  intro p e s m args below meth c s₁ B hml hv
  obtain ⟨hargs, hsz, hP, hK, hN, hG⟩ := hv
  have hx := B.exec
  have hb := B.bytes
  have hr := B.returns
  have hlocks := B.notSynchronized
  have hts := atoms_spec (ws := WS) B.pre
  have hown : s.vm.findClass R_Sw = some m.cls := findClass_of_methodNamed B.named
  have C : xC p m c b_Sw_accept 5 s args R_Sw D clA (tysA κ) 52 Θ sz := ⟨⟨hx, hb, hml, hown, hts⟩, hK, hN, hG, hsz⟩
  have hS : va_S (xA 52 Θ sz) s.heap s.heap [] := va_S.rf
  have hE := lg_entry_eq m [.ref (Θ (6)), .int p1, .int p2, .int p3] 5
  rw [← hargs] at hE
  rw [hE]
  have hl := lv_entry [.ref (Θ (6)), .int p1, .int p2, .int p3] (n := 5) (Nat.le_of_ble_eq_true rfl)
  generalize (lg_sl [.ref (Θ (6)), .int p1, .int p2, .int p3] ++ List.replicate (5 - (lg_sl [.ref (Θ (6)), .int p1, .int p2, .int p3]).length) Slot.unset).toArray = ls at hl ⊢
  have hl : lv_has ls 5 [(0, .ref (Θ (6))), (1, .int p1), (2, .int p2), (3, .int p3)] := hl
  unfold p_Sw_accept at h
  refine lv_iload_n hx hb d_Sw_accept_0 rfl (lv_at hl 1 rfl) ?_
  refine x_gi (x_S C hP hS (c_Bk_mobileOf l D κ hΘ sz p1 I J _ h) q_Bk_mobileOf k_595 k_611 rfl rfl ⟨Nat.le_of_ble_eq_true rfl, Nat.le_of_ble_eq_true rfl⟩ rfl hl.1 rfl (Nat.le_of_ble_eq_true rfl) d_Sw_accept_1) hS (fun r3 I1 J2 h H locs hP hS => ?_)
  refine lv_istore hx hb d_Sw_accept_4 hl (Nat.le_of_ble_eq_true rfl) (lv' := [(4, .int r3), (0, .ref (Θ (6))), (1, .int p1), (2, .int p2), (3, .int p3)]) rfl (fun ls hl => ?_)
  refine lv_iload_n hx hb d_Sw_accept_6 rfl (lv_at hl 2 rfl) ?_
  refine x_gi (x_S C hP hS (c_Bk_kindOf l D κ hΘ sz p1 I1 J2 _ h) q_Bk_kindOf k_250 k_612 rfl rfl ⟨Nat.le_of_ble_eq_true rfl, Nat.le_of_ble_eq_true rfl⟩ rfl hl.1 rfl (Nat.le_of_ble_eq_true rfl) d_Sw_accept_7) hS (fun r6 I4 J5 h H locs hP hS => ?_)
  refine lv_iconst (v := (1 : Int32)) hx hb d_Sw_accept_10 (by decide) ?_
  refine lv_icmp_ne hx hb d_Sw_accept_11 (tgt := 47) rfl (fun hc39 => ?_) (fun hc39 => ?_)
  · have h := h.1 hc39
    refine lv_aload_n hx hb d_Sw_accept_47 rfl (lv_at hl 1 rfl) ?_
    refine gfC_Sw_15 C hP d_Sw_accept_48 ?_
    refine lv_iload hx hb d_Sw_accept_51 (lv_at hl 0 rfl) ?_
    obtain ⟨j7, ej7, h_j7, h⟩ := h
    refine x_iald hx hb hK hP (8) 0 (Nat.le_of_ble_eq_true rfl) eC_places rfl ej7 h_j7 (by decide) d_Sw_accept_53 ?_
    refine lv_iload_n hx hb d_Sw_accept_54 rfl (lv_at hl 3 rfl) ?_
    refine lv_icmp_ne hx hb d_Sw_accept_55 (tgt := 98) rfl (fun hc28 => ?_) (fun hc28 => ?_)
    · have h := h.1 hc28
      exact x_vret hx hb hr hlocks hP hS h d_Sw_accept_98
    · have h := h.2 hc28
      refine lv_iload_n hx hb d_Sw_accept_58 rfl (lv_at hl 2 rfl) ?_
      refine x_gi (x_S C hP hS (c_Bk_kindOf l D κ hΘ sz p1 I4 J5 _ h) q_Bk_kindOf k_250 k_612 rfl rfl ⟨Nat.le_of_ble_eq_true rfl, Nat.le_of_ble_eq_true rfl⟩ rfl hl.1 rfl (Nat.le_of_ble_eq_true rfl) d_Sw_accept_59) hS (fun r10 I8 J9 h H locs hP hS => ?_)
      refine lv_iconst (v := (2 : Int32)) hx hb d_Sw_accept_62 (by decide) ?_
      refine lv_icmp_ne hx hb d_Sw_accept_63 (tgt := 84) rfl (fun hc27 => ?_) (fun hc27 => ?_)
      · have h := h.1 hc27
        refine lv_aload_n hx hb d_Sw_accept_84 rfl (lv_at hl 1 rfl) ?_
        refine lv_iload hx hb d_Sw_accept_85 (lv_at hl 0 rfl) ?_
        refine lv_iload_n hx hb d_Sw_accept_87 rfl (lv_at hl 2 rfl) ?_
        refine x_gi (x_S C hP hS (c_Bk_otherOf l D κ hΘ sz p1 I8 J9 _ h) q_Bk_otherOf k_674 k_673 rfl rfl ⟨Nat.le_of_ble_eq_true rfl, Nat.le_of_ble_eq_true rfl⟩ rfl hl.1 rfl (Nat.le_of_ble_eq_true rfl) d_Sw_accept_88) hS (fun r13 I11 J12 h H locs hP hS => ?_)
        refine lv_iload_n hx hb d_Sw_accept_91 rfl (lv_at hl 2 rfl) ?_
        refine x_gi (x_S C hP hS (c_Bk_restOf l D κ hΘ sz p1 I11 J12 _ h) q_Bk_restOf k_614 k_613 rfl rfl ⟨Nat.le_of_ble_eq_true rfl, Nat.le_of_ble_eq_true rfl⟩ rfl hl.1 rfl (Nat.le_of_ble_eq_true rfl) d_Sw_accept_92) hS (fun r16 I14 J15 h H locs hP hS => ?_)
        refine x_gv (x_V C hP hS (Nat.le_of_ble_eq_true rfl) (eC_Sw _ _) rfl (c_Sw_passData l D κ hΘ sz r3 r13 r16 I14 J15 _ h) q_Sw_passData k_678 sel_Sw_passData k_676 rfl rfl ⟨Nat.le_of_ble_eq_true rfl, Nat.le_of_ble_eq_true rfl⟩ rfl hl.1 rfl (Nat.le_of_ble_eq_true rfl) d_Sw_accept_95) hS (fun I17 J18 h H locs hP hS => ?_)
        exact x_vret hx hb hr hlocks hP hS h d_Sw_accept_98
      · have h := h.2 hc27
        refine lv_aload_n hx hb d_Sw_accept_66 rfl (lv_at hl 1 rfl) ?_
        refine lv_iload hx hb d_Sw_accept_67 (lv_at hl 0 rfl) ?_
        refine lv_iload_n hx hb d_Sw_accept_69 rfl (lv_at hl 2 rfl) ?_
        refine x_gi (x_S C hP hS (c_Bk_groupOf l D κ hΘ sz p1 I8 J9 _ h) q_Bk_groupOf k_618 k_617 rfl rfl ⟨Nat.le_of_ble_eq_true rfl, Nat.le_of_ble_eq_true rfl⟩ rfl hl.1 rfl (Nat.le_of_ble_eq_true rfl) d_Sw_accept_70) hS (fun r21 I19 J20 h H locs hP hS => ?_)
        refine lv_iload_n hx hb d_Sw_accept_73 rfl (lv_at hl 2 rfl) ?_
        refine x_gi (x_S C hP hS (c_Bk_levelOf l D κ hΘ sz p1 I19 J20 _ h) q_Bk_levelOf k_621 k_620 rfl rfl ⟨Nat.le_of_ble_eq_true rfl, Nat.le_of_ble_eq_true rfl⟩ rfl hl.1 rfl (Nat.le_of_ble_eq_true rfl) d_Sw_accept_74) hS (fun r24 I22 J23 h H locs hP hS => ?_)
        refine lv_iload_n hx hb d_Sw_accept_77 rfl (lv_at hl 4 rfl) ?_
        refine x_gv (x_V C hP hS (Nat.le_of_ble_eq_true rfl) (eC_Sw _ _) rfl (c_Sw_acceptRequest l D κ hΘ sz r3 r21 r24 p3 I22 J23 _ h) q_Sw_acceptRequest k_625 sel_Sw_acceptRequest k_623 rfl rfl ⟨Nat.le_of_ble_eq_true rfl, Nat.le_of_ble_eq_true rfl⟩ rfl hl.1 rfl (Nat.le_of_ble_eq_true rfl) d_Sw_accept_78) hS (fun I25 J26 h H locs hP hS => ?_)
        refine lv_goto hx hb d_Sw_accept_81 (tgt := 98) rfl ?_
        exact x_vret hx hb hr hlocks hP hS h d_Sw_accept_98
  · have h := h.2 hc39
    refine lv_iload_n hx hb d_Sw_accept_14 rfl (lv_at hl 2 rfl) ?_
    refine x_gi (x_S C hP hS (c_Bk_restOf l D κ hΘ sz p1 I4 J5 _ h) q_Bk_restOf k_614 k_613 rfl rfl ⟨Nat.le_of_ble_eq_true rfl, Nat.le_of_ble_eq_true rfl⟩ rfl hl.1 rfl (Nat.le_of_ble_eq_true rfl) d_Sw_accept_15) hS (fun r31 I29 J30 h H locs hP hS => ?_)
    refine lv_aload_n hx hb d_Sw_accept_18 rfl (lv_at hl 1 rfl) ?_
    refine gfC_Sw_9 C hP d_Sw_accept_19 ?_
    refine lv_iload hx hb d_Sw_accept_22 (lv_at hl 0 rfl) ?_
    obtain ⟨j32, ej32, h_j32, h⟩ := h
    refine x_iald hx hb hK hP (7) 0 (Nat.le_of_ble_eq_true rfl) eC_keys rfl ej32 h_j32 (by decide) d_Sw_accept_24 ?_
    refine lv_iload_n hx hb d_Sw_accept_25 rfl (lv_at hl 4 rfl) ?_
    refine x_gi (x_SN C hP hS (c_TC_mix l D κ hΘ sz (I29 (7) j32) p3 I29 J30 _ h) q_TC_mix k_579 nk_616 rfl rfl ⟨Nat.le_of_ble_eq_true rfl, Nat.le_of_ble_eq_true rfl⟩ rfl hl.1 rfl (Nat.le_of_ble_eq_true rfl) d_Sw_accept_26) hS (fun r35 I33 J34 h H locs hP hS => ?_)
    refine lv_sipush (v := (511 : Int32)) hx hb d_Sw_accept_29 (by decide) ?_
    refine lv_iand hx hb d_Sw_accept_32 ?_
    refine lv_icmp_ne hx hb d_Sw_accept_33 (tgt := 98) rfl (fun hc38 => ?_) (fun hc38 => ?_)
    · have h := h.1 hc38
      exact x_vret hx hb hr hlocks hP hS h d_Sw_accept_98
    · have h := h.2 hc38
      refine lv_aload_n hx hb d_Sw_accept_36 rfl (lv_at hl 1 rfl) ?_
      refine gfC_Sw_15 C hP d_Sw_accept_37 ?_
      refine lv_iload hx hb d_Sw_accept_40 (lv_at hl 0 rfl) ?_
      refine lv_iload_n hx hb d_Sw_accept_42 rfl (lv_at hl 3 rfl) ?_
      obtain ⟨j36, ej36, h_j36, h⟩ := h
      refine x_iast hx hb hK hΘ hP hS (8) 0 (Nat.le_of_ble_eq_true rfl) eC_places rfl ej36 h_j36 (by decide) d_Sw_accept_43 (fun H locs hP hS => ?_)
      obtain ⟨I37, eI37⟩ : ∃ y, y = xu I33 (8) j36 p2 := ⟨_, rfl⟩
      have hP : va_P D clA (xw 52 Θ (eC Θ κ) I37 J34) H := by rw [eI37]; exact hP
      have h := h I37 eI37
      refine lv_goto hx hb d_Sw_accept_44 (tgt := 98) rfl ?_
      exact x_vret hx hb hr hlocks hP hS h d_Sw_accept_98
set_option maxHeartbeats 4000000 in
set_option maxRecDepth 100000 in
theorem c_Sw_endTurn (l : Launch) (D : va_G) (κ : Nat → ClassId) {Θ : Nat → Nat} (hΘ : xJ 52 Θ) (sz : Nat) (p1 : Int32) (p2 : Int32) (I : SI) (J : SJ) (post : SI → SJ → Prop) (h : p_Sw_endTurn p1 p2 post I J) : Met l y_Sw_endTurn WS rm_Sw_endTurn (va_Pc [.ref (Θ (6)), .int p1, .int p2] (xPR D clA (tysA κ) 52 Θ (eC Θ κ) sz I J)) (xQv D clA 52 Θ (eC Θ κ) sz post) 0 0 (xA 52 Θ sz) := by
  refine xMet (cc := b_Sw_endTurn) (maxL := 5) (ret := none) (by decide) q_Sw_endTurn.1 ?_
  intro p e s m args below meth c s₁ B hml hv
  obtain ⟨hargs, hsz, hP, hK, hN, hG⟩ := hv
  have hx := B.exec
  have hb := B.bytes
  have hr := B.returns
  have hlocks := B.notSynchronized
  have hts := atoms_spec (ws := WS) B.pre
  have hown : s.vm.findClass R_Sw = some m.cls := findClass_of_methodNamed B.named
  have C : xC p m c b_Sw_endTurn 5 s args R_Sw D clA (tysA κ) 52 Θ sz := ⟨⟨hx, hb, hml, hown, hts⟩, hK, hN, hG, hsz⟩
  have hS : va_S (xA 52 Θ sz) s.heap s.heap [] := va_S.rf
  have tJ81 : ∀ (k55 : Int32 → SI → SJ → Prop), (∀ (v4 : Int32) (I : SI) (J : SJ), k55 v4 I J → ∀ (H : Heap) (locs : List Loc) (ls : Array Slot), lv_has ls 5 [(0, .ref (Θ (6))), (2, .int p2), (4, .int v4)] → va_P D clA (xw 52 Θ (eC Θ κ) I J) H → va_S (xA 52 Θ sz) s.heap H locs → W p l e (headSpec WS rm_Sw_endTurn).room s m args below meth c H locs 0 0 (MQ below (xQv D clA 52 Θ (eC Θ κ) sz post) args s 0 0 (xA 52 Θ sz)) (F0 m 55 ls [])) → ∀ (v4 : Int32) (I : SI) (J : SJ), p_Sw_endTurn_81 p1 p2 post k55 v4 I J → ∀ (H : Heap) (locs : List Loc) (ls : Array Slot), lv_has ls 5 [(0, .ref (Θ (6))), (2, .int p2), (4, .int v4)] → va_P D clA (xw 52 Θ (eC Θ κ) I J) H → va_S (xA 52 Θ sz) s.heap H locs → W p l e (headSpec WS rm_Sw_endTurn).room s m args below meth c H locs 0 0 (MQ below (xQv D clA 52 Θ (eC Θ κ) sz post) args s 0 0 (xA 52 Θ sz)) (F0 m 81 ls []) := by
    intro k55 hk55 v4 I J h H locs ls hl hP hS
    unfold p_Sw_endTurn_81 at h
    obtain ⟨x17, ex17⟩ : ∃ y : Int32, y = v4 + (1 : Int32) := ⟨_, rfl⟩
    have h := h x17 ex17
    refine lv_iinc (k := 2) (v := x17) hx hb d_Sw_endTurn_81 hl rfl (by rw [ex17]; rfl) (Nat.le_of_ble_eq_true rfl) (lv' := [(4, .int x17), (0, .ref (Θ (6))), (2, .int p2)]) rfl (fun ls hl => ?_)
    refine lv_goto hx hb d_Sw_endTurn_84 (tgt := 55) rfl ?_
    exact hk55 _ _ _ h _ _ _ (lv_sub hl [1, 2, 0] rfl) hP hS
  have tL55 : ∀ (n : Nat) (v4 : Int32) (I : SI) (J : SJ), p_Sw_endTurn_L55 p1 p2 post n v4 I J → ∀ (H : Heap) (locs : List Loc) (ls : Array Slot), lv_has ls 5 [(0, .ref (Θ (6))), (2, .int p2), (4, .int v4)] → va_P D clA (xw 52 Θ (eC Θ κ) I J) H → va_S (xA 52 Θ sz) s.heap H locs → W p l e (headSpec WS rm_Sw_endTurn).room s m args below meth c H locs 0 0 (MQ below (xQv D clA 52 Θ (eC Θ κ) sz post) args s 0 0 (xA 52 Θ sz)) (F0 m 55 ls []) := by
    intro n
    induction n with
    | zero =>
      intro v4 I J h H locs ls hl hP hS
      exact h.elim
    | succ n ih =>
      intro v4 I J h H locs ls hl hP hS
      unfold p_Sw_endTurn_L55 at h
      refine lv_iload hx hb d_Sw_endTurn_55 (lv_at hl 2 rfl) ?_
      refine lv_iconst (v := (4 : Int32)) hx hb d_Sw_endTurn_57 (by decide) ?_
      refine lv_icmp_ge hx hb d_Sw_endTurn_58 (tgt := 87) rfl (fun hc21 => ?_) (fun hc21 => ?_)
      · have h := h.1 hc21
        exact x_vret hx hb hr hlocks hP hS h d_Sw_endTurn_87
      · have h := h.2 hc21
        refine lv_aload_n hx hb d_Sw_endTurn_61 rfl (lv_at hl 0 rfl) ?_
        refine gfC_Sw_29 C hP d_Sw_endTurn_62 ?_
        refine lv_iload hx hb d_Sw_endTurn_65 (lv_at hl 2 rfl) ?_
        obtain ⟨j13, ej13, h_j13, h⟩ := h
        refine x_aald hx hb hK hP (10) 4 (Nat.le_of_ble_eq_true rfl) eC_groups rfl ej13 h_j13 (by decide) d_Sw_endTurn_67 ?_
        refine x_gi (x_V C hP hS (xlt h_j13 rfl) ((eC_Gr h_j13) _ _) rfl (c_Gr_hasCall l D κ hΘ sz j13 h_j13 I J _ h) q_Gr_hasCall k_640 k_641 k_639 rfl rfl ⟨Nat.le_of_ble_eq_true rfl, Nat.le_of_ble_eq_true rfl⟩ rfl hl.1 rfl (Nat.le_of_ble_eq_true rfl) d_Sw_endTurn_68) hS (fun r16 I14 J15 h H locs hP hS => ?_)
        refine lv_if_ne hx hb d_Sw_endTurn_71 (tgt := 81) rfl (fun hc20 => ?_) (fun hc20 => ?_)
        · have h := h.1 hc20
          exact tJ81 _ ih _ _ _ h _ _ _ (lv_sub hl [0, 1, 2] rfl) hP hS
        · have h := h.2 hc20
          refine lv_aload_n hx hb d_Sw_endTurn_74 rfl (lv_at hl 0 rfl) ?_
          refine lv_iload hx hb d_Sw_endTurn_75 (lv_at hl 2 rfl) ?_
          refine lv_iload_n hx hb d_Sw_endTurn_77 rfl (lv_at hl 1 rfl) ?_
          refine x_gv (x_V C hP hS (Nat.le_of_ble_eq_true rfl) (eC_Sw _ _) rfl (c_Sw_serve l D κ hΘ sz v4 p2 I14 J15 _ h) q_Sw_serve k_645 sel_Sw_serve k_643 rfl rfl ⟨Nat.le_of_ble_eq_true rfl, Nat.le_of_ble_eq_true rfl⟩ rfl hl.1 rfl (Nat.le_of_ble_eq_true rfl) d_Sw_endTurn_78) hS (fun I18 J19 h H locs hP hS => ?_)
          exact tJ81 _ ih _ _ _ h _ _ _ (lv_sub hl [0, 1, 2] rfl) hP hS
  have hE := lg_entry_eq m [.ref (Θ (6)), .int p1, .int p2] 5
  rw [← hargs] at hE
  rw [hE]
  have hl := lv_entry [.ref (Θ (6)), .int p1, .int p2] (n := 5) (Nat.le_of_ble_eq_true rfl)
  generalize (lg_sl [.ref (Θ (6)), .int p1, .int p2] ++ List.replicate (5 - (lg_sl [.ref (Θ (6)), .int p1, .int p2]).length) Slot.unset).toArray = ls at hl ⊢
  have hl : lv_has ls 5 [(0, .ref (Θ (6))), (1, .int p1), (2, .int p2)] := hl
  unfold p_Sw_endTurn at h
  refine lv_aload_n hx hb d_Sw_endTurn_0 rfl (lv_at hl 0 rfl) ?_
  refine gfC_Sw_29 C hP d_Sw_endTurn_1 ?_
  refine lv_iload_n hx hb d_Sw_endTurn_4 rfl (lv_at hl 1 rfl) ?_
  obtain ⟨j1, ej1, h_j1, h⟩ := h
  refine x_aald hx hb hK hP (10) 4 (Nat.le_of_ble_eq_true rfl) eC_groups rfl ej1 h_j1 (by decide) d_Sw_endTurn_5 ?_
  refine gfC_Sw_105 C hP h_j1 d_Sw_endTurn_6 ?_
  refine lv_if_le hx hb d_Sw_endTurn_9 (tgt := 19) rfl (fun hc25 => ?_) (fun hc25 => ?_)
  · have h := h.1 hc25
    refine lv_aload_n hx hb d_Sw_endTurn_19 rfl (lv_at hl 0 rfl) ?_
    refine gfC_Sw_29 C hP d_Sw_endTurn_20 ?_
    refine lv_iload_n hx hb d_Sw_endTurn_23 rfl (lv_at hl 1 rfl) ?_
    obtain ⟨j2, ej2, h_j2, h⟩ := h
    refine x_aald hx hb hK hP (10) 4 (Nat.le_of_ble_eq_true rfl) eC_groups rfl ej2 h_j2 (by decide) d_Sw_endTurn_24 ?_
    refine gfC_Sw_97 C hP h_j2 d_Sw_endTurn_25 ?_
    refine lv_topi (fun x3 ex3 => ?_)
    have h := h x3 ex3
    refine lv_istore_n hx hb d_Sw_endTurn_28 rfl hl (Nat.le_of_ble_eq_true rfl) (lv' := [(3, .int x3), (0, .ref (Θ (6))), (1, .int p1), (2, .int p2)]) rfl (fun ls hl => ?_)
    refine lv_aload_n hx hb d_Sw_endTurn_29 rfl (lv_at hl 1 rfl) ?_
    refine gfC_Sw_29 C hP d_Sw_endTurn_30 ?_
    refine lv_iload_n hx hb d_Sw_endTurn_33 rfl (lv_at hl 2 rfl) ?_
    obtain ⟨j4, ej4, h_j4, h⟩ := h
    refine x_aald hx hb hK hP (10) 4 (Nat.le_of_ble_eq_true rfl) eC_groups rfl ej4 h_j4 (by decide) d_Sw_endTurn_34 ?_
    refine x_gv (x_VN C hP hS (xlt h_j4 rfl) ((eC_Gr h_j4) _ _) rfl (c_Gr_endCall l D κ hΘ sz j4 h_j4 I J _ h) q_Gr_endCall k_76 sel_Gr_endCall nk_745 rfl rfl ⟨Nat.le_of_ble_eq_true rfl, Nat.le_of_ble_eq_true rfl⟩ rfl hl.1 rfl (Nat.le_of_ble_eq_true rfl) d_Sw_endTurn_35) hS (fun I5 J6 h H locs hP hS => ?_)
    refine lv_aload_n hx hb d_Sw_endTurn_38 rfl (lv_at hl 1 rfl) ?_
    refine lv_iload_n hx hb d_Sw_endTurn_39 rfl (lv_at hl 2 rfl) ?_
    refine lv_bipush (v := (10 : Int32)) hx hb d_Sw_endTurn_40 (by decide) ?_
    refine lv_iconst (v := (0 : Int32)) hx hb d_Sw_endTurn_42 (by decide) ?_
    refine lv_iload_n hx hb d_Sw_endTurn_43 rfl (lv_at hl 2 rfl) ?_
    refine lv_iload_n hx hb d_Sw_endTurn_44 rfl (lv_at hl 0 rfl) ?_
    refine lv_iconst (v := (0 : Int32)) hx hb d_Sw_endTurn_45 (by decide) ?_
    refine x_gi (x_S C hP hS (c_Bk_of l D κ hΘ sz (10 : Int32) (0 : Int32) p1 x3 (0 : Int32) I5 J6 _ h) q_Bk_of k_478 k_664 rfl rfl ⟨Nat.le_of_ble_eq_true rfl, Nat.le_of_ble_eq_true rfl⟩ rfl hl.1 rfl (Nat.le_of_ble_eq_true rfl) d_Sw_endTurn_46) hS (fun r9 I7 J8 h H locs hP hS => ?_)
    refine x_gv (x_V C hP hS (Nat.le_of_ble_eq_true rfl) (eC_Sw _ _) rfl (c_Sw_sayToMembers l D κ hΘ sz p1 r9 I7 J8 _ h) q_Sw_sayToMembers k_667 sel_Sw_sayToMembers k_665 rfl rfl ⟨Nat.le_of_ble_eq_true rfl, Nat.le_of_ble_eq_true rfl⟩ rfl hl.1 rfl (Nat.le_of_ble_eq_true rfl) d_Sw_endTurn_49) hS (fun I10 J11 h H locs hP hS => ?_)
    refine lv_iconst (v := (0 : Int32)) hx hb d_Sw_endTurn_52 (by decide) ?_
    refine lv_topi (fun x12 ex12 => ?_)
    have h := h x12 ex12
    refine lv_istore hx hb d_Sw_endTurn_53 hl (Nat.le_of_ble_eq_true rfl) (lv' := [(4, .int x12), (3, .int x3), (0, .ref (Θ (6))), (1, .int p1), (2, .int p2)]) rfl (fun ls hl => ?_)
    obtain ⟨n22, h⟩ := h
    refine tL55 n22 _ _ _ h _ _ _ (lv_sub hl [2, 4, 0] rfl) hP hS
  · have h := h.2 hc25
    refine lv_aload_n hx hb d_Sw_endTurn_12 rfl (lv_at hl 0 rfl) ?_
    refine lv_iload_n hx hb d_Sw_endTurn_13 rfl (lv_at hl 1 rfl) ?_
    refine lv_iload_n hx hb d_Sw_endTurn_14 rfl (lv_at hl 2 rfl) ?_
    refine x_gv (x_V C hP hS (Nat.le_of_ble_eq_true rfl) (eC_Sw _ _) rfl (c_Sw_serve l D κ hΘ sz p1 p2 I J _ h) q_Sw_serve k_645 sel_Sw_serve k_643 rfl rfl ⟨Nat.le_of_ble_eq_true rfl, Nat.le_of_ble_eq_true rfl⟩ rfl hl.1 rfl (Nat.le_of_ble_eq_true rfl) d_Sw_endTurn_15) hS (fun I23 J24 h H locs hP hS => ?_)
    exact x_vret hx hb hr hlocks hP hS h d_Sw_endTurn_18
set_option maxHeartbeats 4000000 in
set_option maxRecDepth 100000 in
theorem c_Sw_endLongTurns (l : Launch) (D : va_G) (κ : Nat → ClassId) {Θ : Nat → Nat} (hΘ : xJ 52 Θ) (sz : Nat) (p1 : Int32) (I : SI) (J : SJ) (post : SI → SJ → Prop) (h : p_Sw_endLongTurns p1 post I J) : Met l y_Sw_endLongTurns WS rm_Sw_endLongTurns (va_Pc [.ref (Θ (6)), .int p1] (xPR D clA (tysA κ) 52 Θ (eC Θ κ) sz I J)) (xQv D clA 52 Θ (eC Θ κ) sz post) 0 0 (xA 52 Θ sz) := by
  refine xMet (cc := b_Sw_endLongTurns) (maxL := 3) (ret := none) (by decide) q_Sw_endLongTurns.1 ?_
  intro p e s m args below meth c s₁ B hml hv
  obtain ⟨hargs, hsz, hP, hK, hN, hG⟩ := hv
  have hx := B.exec
  have hb := B.bytes
  have hr := B.returns
  have hlocks := B.notSynchronized
  have hts := atoms_spec (ws := WS) B.pre
  have hown : s.vm.findClass R_Sw = some m.cls := findClass_of_methodNamed B.named
  have C : xC p m c b_Sw_endLongTurns 3 s args R_Sw D clA (tysA κ) 52 Θ sz := ⟨⟨hx, hb, hml, hown, hts⟩, hK, hN, hG, hsz⟩
  have hS : va_S (xA 52 Θ sz) s.heap s.heap [] := va_S.rf
  have tJ41 : ∀ (k2 : Int32 → SI → SJ → Prop), (∀ (v2 : Int32) (I : SI) (J : SJ), k2 v2 I J → ∀ (H : Heap) (locs : List Loc) (ls : Array Slot), lv_has ls 3 [(0, .ref (Θ (6))), (1, .int p1), (2, .int v2)] → va_P D clA (xw 52 Θ (eC Θ κ) I J) H → va_S (xA 52 Θ sz) s.heap H locs → W p l e (headSpec WS rm_Sw_endLongTurns).room s m args below meth c H locs 0 0 (MQ below (xQv D clA 52 Θ (eC Θ κ) sz post) args s 0 0 (xA 52 Θ sz)) (F0 m 2 ls [])) → ∀ (v2 : Int32) (I : SI) (J : SJ), p_Sw_endLongTurns_41 p1 post k2 v2 I J → ∀ (H : Heap) (locs : List Loc) (ls : Array Slot), lv_has ls 3 [(0, .ref (Θ (6))), (1, .int p1), (2, .int v2)] → va_P D clA (xw 52 Θ (eC Θ κ) I J) H → va_S (xA 52 Θ sz) s.heap H locs → W p l e (headSpec WS rm_Sw_endLongTurns).room s m args below meth c H locs 0 0 (MQ below (xQv D clA 52 Θ (eC Θ κ) sz post) args s 0 0 (xA 52 Θ sz)) (F0 m 41 ls []) := by
    intro k2 hk2 v2 I J h H locs ls hl hP hS
    unfold p_Sw_endLongTurns_41 at h
    obtain ⟨x6, ex6⟩ : ∃ y : Int32, y = v2 + (1 : Int32) := ⟨_, rfl⟩
    have h := h x6 ex6
    refine lv_iinc (k := 2) (v := x6) hx hb d_Sw_endLongTurns_41 hl rfl (by rw [ex6]; rfl) (Nat.le_of_ble_eq_true rfl) (lv' := [(2, .int x6), (0, .ref (Θ (6))), (1, .int p1)]) rfl (fun ls hl => ?_)
    refine lv_goto hx hb d_Sw_endLongTurns_44 (tgt := 2) rfl ?_
    exact hk2 _ _ _ h _ _ _ (lv_sub hl [1, 2, 0] rfl) hP hS
  have tL2 : ∀ (n : Nat) (v2 : Int32) (I : SI) (J : SJ), p_Sw_endLongTurns_L2 p1 post n v2 I J → ∀ (H : Heap) (locs : List Loc) (ls : Array Slot), lv_has ls 3 [(0, .ref (Θ (6))), (1, .int p1), (2, .int v2)] → va_P D clA (xw 52 Θ (eC Θ κ) I J) H → va_S (xA 52 Θ sz) s.heap H locs → W p l e (headSpec WS rm_Sw_endLongTurns).room s m args below meth c H locs 0 0 (MQ below (xQv D clA 52 Θ (eC Θ κ) sz post) args s 0 0 (xA 52 Θ sz)) (F0 m 2 ls []) := by
    intro n
    induction n with
    | zero =>
      intro v2 I J h H locs ls hl hP hS
      exact h.elim
    | succ n ih =>
      intro v2 I J h H locs ls hl hP hS
      unfold p_Sw_endLongTurns_L2 at h
      refine lv_iload_n hx hb d_Sw_endLongTurns_2 rfl (lv_at hl 2 rfl) ?_
      refine lv_iconst (v := (4 : Int32)) hx hb d_Sw_endLongTurns_3 (by decide) ?_
      refine lv_icmp_ge hx hb d_Sw_endLongTurns_4 (tgt := 47) rfl (fun hc12 => ?_) (fun hc12 => ?_)
      · have h := h.1 hc12
        exact x_vret hx hb hr hlocks hP hS h d_Sw_endLongTurns_47
      · have h := h.2 hc12
        refine lv_aload_n hx hb d_Sw_endLongTurns_7 rfl (lv_at hl 0 rfl) ?_
        refine gfC_Sw_29 C hP d_Sw_endLongTurns_8 ?_
        refine lv_iload_n hx hb d_Sw_endLongTurns_11 rfl (lv_at hl 2 rfl) ?_
        obtain ⟨j2, ej2, h_j2, h⟩ := h
        refine x_aald hx hb hK hP (10) 4 (Nat.le_of_ble_eq_true rfl) eC_groups rfl ej2 h_j2 (by decide) d_Sw_endLongTurns_12 ?_
        refine x_gi (x_V C hP hS (xlt h_j2 rfl) ((eC_Gr h_j2) _ _) rfl (c_Gr_hasCall l D κ hΘ sz j2 h_j2 I J _ h) q_Gr_hasCall k_640 k_641 k_639 rfl rfl ⟨Nat.le_of_ble_eq_true rfl, Nat.le_of_ble_eq_true rfl⟩ rfl hl.1 rfl (Nat.le_of_ble_eq_true rfl) d_Sw_endLongTurns_13) hS (fun r5 I3 J4 h H locs hP hS => ?_)
        refine lv_if_eq hx hb d_Sw_endLongTurns_16 (tgt := 41) rfl (fun hc11 => ?_) (fun hc11 => ?_)
        · have h := h.1 hc11
          exact tJ41 _ ih _ _ _ h _ _ _ (lv_sub hl [0, 1, 2] rfl) hP hS
        · have h := h.2 hc11
          refine lv_iload_n hx hb d_Sw_endLongTurns_19 rfl (lv_at hl 1 rfl) ?_
          refine lv_aload_n hx hb d_Sw_endLongTurns_20 rfl (lv_at hl 0 rfl) ?_
          refine gfC_Sw_29 C hP d_Sw_endLongTurns_21 ?_
          refine lv_iload_n hx hb d_Sw_endLongTurns_24 rfl (lv_at hl 2 rfl) ?_
          obtain ⟨j7, ej7, h_j7, h⟩ := h
          refine x_aald hx hb hK hP (10) 4 (Nat.le_of_ble_eq_true rfl) eC_groups rfl ej7 h_j7 (by decide) d_Sw_endLongTurns_25 ?_
          refine gfC_Sw_124 C hP h_j7 d_Sw_endLongTurns_26 ?_
          refine lv_isub hx hb d_Sw_endLongTurns_29 ?_
          refine lv_bipush (v := (8 : Int32)) hx hb d_Sw_endLongTurns_30 (by decide) ?_
          refine lv_icmp_lt hx hb d_Sw_endLongTurns_32 (tgt := 41) rfl (fun hc10 => ?_) (fun hc10 => ?_)
          · have h := h.1 hc10
            exact tJ41 _ ih _ _ _ h _ _ _ (lv_sub hl [0, 1, 2] rfl) hP hS
          · have h := h.2 hc10
            refine lv_aload_n hx hb d_Sw_endLongTurns_35 rfl (lv_at hl 0 rfl) ?_
            refine lv_iload_n hx hb d_Sw_endLongTurns_36 rfl (lv_at hl 2 rfl) ?_
            refine lv_iload_n hx hb d_Sw_endLongTurns_37 rfl (lv_at hl 1 rfl) ?_
            refine x_gv (x_V C hP hS (Nat.le_of_ble_eq_true rfl) (eC_Sw _ _) rfl (c_Sw_endTurn l D κ hΘ sz v2 p1 I3 J4 _ h) q_Sw_endTurn k_742 k_743 k_758 rfl rfl ⟨Nat.le_of_ble_eq_true rfl, Nat.le_of_ble_eq_true rfl⟩ rfl hl.1 rfl (Nat.le_of_ble_eq_true rfl) d_Sw_endLongTurns_38) hS (fun I8 J9 h H locs hP hS => ?_)
            exact tJ41 _ ih _ _ _ h _ _ _ (lv_sub hl [0, 1, 2] rfl) hP hS
  have hE := lg_entry_eq m [.ref (Θ (6)), .int p1] 3
  rw [← hargs] at hE
  rw [hE]
  have hl := lv_entry [.ref (Θ (6)), .int p1] (n := 3) (Nat.le_of_ble_eq_true rfl)
  generalize (lg_sl [.ref (Θ (6)), .int p1] ++ List.replicate (3 - (lg_sl [.ref (Θ (6)), .int p1]).length) Slot.unset).toArray = ls at hl ⊢
  have hl : lv_has ls 3 [(0, .ref (Θ (6))), (1, .int p1)] := hl
  unfold p_Sw_endLongTurns at h
  refine lv_iconst (v := (0 : Int32)) hx hb d_Sw_endLongTurns_0 (by decide) ?_
  refine lv_topi (fun x1 ex1 => ?_)
  have h := h x1 ex1
  refine lv_istore_n hx hb d_Sw_endLongTurns_1 rfl hl (Nat.le_of_ble_eq_true rfl) (lv' := [(2, .int x1), (0, .ref (Θ (6))), (1, .int p1)]) rfl (fun ls hl => ?_)
  obtain ⟨n13, h⟩ := h
  refine tL2 n13 _ _ _ h _ _ _ (lv_sub hl [1, 2, 0] rfl) hP hS
