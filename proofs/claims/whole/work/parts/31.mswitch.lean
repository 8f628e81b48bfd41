theorem d_Md_toSay_0 : decode b_Md_toSay 0 = .ok (.aload_n 0, 1) := by decide +kernel
theorem d_Md_toSay_1 : decode b_Md_toSay 1 = .ok (.getfield 119, 3) := by decide +kernel
theorem d_Md_toSay_4 : decode b_Md_toSay 4 = .ok (.iload_n 1, 1) := by decide +kernel
theorem d_Md_toSay_5 : decode b_Md_toSay 5 = .ok (.iaload, 1) := by decide +kernel
theorem d_Md_toSay_6 : decode b_Md_toSay 6 = .ok (.bipush (8), 2) := by decide +kernel
theorem d_Md_toSay_8 : decode b_Md_toSay 8 = .ok (.if_icmp .ge (34), 3) := by decide +kernel
theorem d_Md_toSay_11 : decode b_Md_toSay 11 = .ok (.aload_n 0, 1) := by decide +kernel
theorem d_Md_toSay_12 : decode b_Md_toSay 12 = .ok (.getfield 116, 3) := by decide +kernel
theorem d_Md_toSay_15 : decode b_Md_toSay 15 = .ok (.bipush (9), 2) := by decide +kernel
theorem d_Md_toSay_17 : decode b_Md_toSay 17 = .ok (.iload_n 1, 1) := by decide +kernel
theorem d_Md_toSay_18 : decode b_Md_toSay 18 = .ok (.imul, 1) := by decide +kernel
theorem d_Md_toSay_19 : decode b_Md_toSay 19 = .ok (.aload_n 0, 1) := by decide +kernel
theorem d_Md_toSay_20 : decode b_Md_toSay 20 = .ok (.getfield 119, 3) := by decide +kernel
theorem d_Md_toSay_23 : decode b_Md_toSay 23 = .ok (.iload_n 1, 1) := by decide +kernel
theorem d_Md_toSay_24 : decode b_Md_toSay 24 = .ok (.iaload, 1) := by decide +kernel
theorem d_Md_toSay_25 : decode b_Md_toSay 25 = .ok (.iadd, 1) := by decide +kernel
theorem d_Md_toSay_26 : decode b_Md_toSay 26 = .ok (.iload_n 2, 1) := by decide +kernel
theorem d_Md_toSay_27 : decode b_Md_toSay 27 = .ok (.iastore, 1) := by decide +kernel
theorem d_Md_toSay_28 : decode b_Md_toSay 28 = .ok (.aload_n 0, 1) := by decide +kernel
theorem d_Md_toSay_29 : decode b_Md_toSay 29 = .ok (.getfield 119, 3) := by decide +kernel
theorem d_Md_toSay_32 : decode b_Md_toSay 32 = .ok (.iload_n 1, 1) := by decide +kernel
theorem d_Md_toSay_33 : decode b_Md_toSay 33 = .ok (.aload_n 0, 1) := by decide +kernel
theorem d_Md_toSay_34 : decode b_Md_toSay 34 = .ok (.getfield 119, 3) := by decide +kernel
theorem d_Md_toSay_37 : decode b_Md_toSay 37 = .ok (.iload_n 1, 1) := by decide +kernel
theorem d_Md_toSay_38 : decode b_Md_toSay 38 = .ok (.iaload, 1) := by decide +kernel
theorem d_Md_toSay_39 : decode b_Md_toSay 39 = .ok (.iconst (1), 1) := by decide +kernel
theorem d_Md_toSay_40 : decode b_Md_toSay 40 = .ok (.iadd, 1) := by decide +kernel
theorem d_Md_toSay_41 : decode b_Md_toSay 41 = .ok (.iastore, 1) := by decide +kernel
theorem d_Md_toSay_42 : decode b_Md_toSay 42 = .ok (.return_, 1) := by decide +kernel
theorem d_Md_sayFirst_0 : decode b_Md_sayFirst 0 = .ok (.bipush (8), 2) := by decide +kernel
theorem d_Md_sayFirst_2 : decode b_Md_sayFirst 2 = .ok (.istore_n 3, 1) := by decide +kernel
theorem d_Md_sayFirst_3 : decode b_Md_sayFirst 3 = .ok (.iload_n 3, 1) := by decide +kernel
theorem d_Md_sayFirst_4 : decode b_Md_sayFirst 4 = .ok (.ifCond .le (33), 3) := by decide +kernel
theorem d_Md_sayFirst_7 : decode b_Md_sayFirst 7 = .ok (.aload_n 0, 1) := by decide +kernel
theorem d_Md_sayFirst_8 : decode b_Md_sayFirst 8 = .ok (.getfield 116, 3) := by decide +kernel
theorem d_Md_sayFirst_11 : decode b_Md_sayFirst 11 = .ok (.bipush (9), 2) := by decide +kernel
theorem d_Md_sayFirst_13 : decode b_Md_sayFirst 13 = .ok (.iload_n 1, 1) := by decide +kernel
theorem d_Md_sayFirst_14 : decode b_Md_sayFirst 14 = .ok (.imul, 1) := by decide +kernel
theorem d_Md_sayFirst_15 : decode b_Md_sayFirst 15 = .ok (.iload_n 3, 1) := by decide +kernel
theorem d_Md_sayFirst_16 : decode b_Md_sayFirst 16 = .ok (.iadd, 1) := by decide +kernel
theorem d_Md_sayFirst_17 : decode b_Md_sayFirst 17 = .ok (.aload_n 0, 1) := by decide +kernel
theorem d_Md_sayFirst_18 : decode b_Md_sayFirst 18 = .ok (.getfield 116, 3) := by decide +kernel
theorem d_Md_sayFirst_21 : decode b_Md_sayFirst 21 = .ok (.bipush (9), 2) := by decide +kernel
theorem d_Md_sayFirst_23 : decode b_Md_sayFirst 23 = .ok (.iload_n 1, 1) := by decide +kernel
theorem d_Md_sayFirst_24 : decode b_Md_sayFirst 24 = .ok (.imul, 1) := by decide +kernel
theorem d_Md_sayFirst_25 : decode b_Md_sayFirst 25 = .ok (.iload_n 3, 1) := by decide +kernel
theorem d_Md_sayFirst_26 : decode b_Md_sayFirst 26 = .ok (.iadd, 1) := by decide +kernel
theorem d_Md_sayFirst_27 : decode b_Md_sayFirst 27 = .ok (.iconst (1), 1) := by decide +kernel
theorem d_Md_sayFirst_28 : decode b_Md_sayFirst 28 = .ok (.isub, 1) := by decide +kernel
theorem d_Md_sayFirst_29 : decode b_Md_sayFirst 29 = .ok (.iaload, 1) := by decide +kernel
theorem d_Md_sayFirst_30 : decode b_Md_sayFirst 30 = .ok (.iastore, 1) := by decide +kernel
theorem d_Md_sayFirst_31 : decode b_Md_sayFirst 31 = .ok (.iinc 3 (-1), 3) := by decide +kernel
theorem d_Md_sayFirst_34 : decode b_Md_sayFirst 34 = .ok (.goto (-31), 3) := by decide +kernel
theorem d_Md_sayFirst_37 : decode b_Md_sayFirst 37 = .ok (.aload_n 0, 1) := by decide +kernel
theorem d_Md_sayFirst_38 : decode b_Md_sayFirst 38 = .ok (.getfield 116, 3) := by decide +kernel
theorem d_Md_sayFirst_41 : decode b_Md_sayFirst 41 = .ok (.bipush (9), 2) := by decide +kernel
theorem d_Md_sayFirst_43 : decode b_Md_sayFirst 43 = .ok (.iload_n 1, 1) := by decide +kernel
theorem d_Md_sayFirst_44 : decode b_Md_sayFirst 44 = .ok (.imul, 1) := by decide +kernel
theorem d_Md_sayFirst_45 : decode b_Md_sayFirst 45 = .ok (.iload_n 2, 1) := by decide +kernel
theorem d_Md_sayFirst_46 : decode b_Md_sayFirst 46 = .ok (.iastore, 1) := by decide +kernel
theorem d_Md_sayFirst_47 : decode b_Md_sayFirst 47 = .ok (.aload_n 0, 1) := by decide +kernel
theorem d_Md_sayFirst_48 : decode b_Md_sayFirst 48 = .ok (.getfield 119, 3) := by decide +kernel
theorem d_Md_sayFirst_51 : decode b_Md_sayFirst 51 = .ok (.iload_n 1, 1) := by decide +kernel
theorem d_Md_sayFirst_52 : decode b_Md_sayFirst 52 = .ok (.iaload, 1) := by decide +kernel
theorem d_Md_sayFirst_53 : decode b_Md_sayFirst 53 = .ok (.bipush (8), 2) := by decide +kernel
theorem d_Md_sayFirst_55 : decode b_Md_sayFirst 55 = .ok (.if_icmp .ge (17), 3) := by decide +kernel
theorem d_Md_sayFirst_58 : decode b_Md_sayFirst 58 = .ok (.aload_n 0, 1) := by decide +kernel
theorem d_Md_sayFirst_59 : decode b_Md_sayFirst 59 = .ok (.getfield 119, 3) := by decide +kernel
theorem d_Md_sayFirst_62 : decode b_Md_sayFirst 62 = .ok (.iload_n 1, 1) := by decide +kernel
theorem d_Md_sayFirst_63 : decode b_Md_sayFirst 63 = .ok (.aload_n 0, 1) := by decide +kernel
theorem d_Md_sayFirst_64 : decode b_Md_sayFirst 64 = .ok (.getfield 119, 3) := by decide +kernel
theorem d_Md_sayFirst_67 : decode b_Md_sayFirst 67 = .ok (.iload_n 1, 1) := by decide +kernel
theorem d_Md_sayFirst_68 : decode b_Md_sayFirst 68 = .ok (.iaload, 1) := by decide +kernel
theorem d_Md_sayFirst_69 : decode b_Md_sayFirst 69 = .ok (.iconst (1), 1) := by decide +kernel
theorem d_Md_sayFirst_70 : decode b_Md_sayFirst 70 = .ok (.iadd, 1) := by decide +kernel
theorem d_Md_sayFirst_71 : decode b_Md_sayFirst 71 = .ok (.iastore, 1) := by decide +kernel
theorem d_Md_sayFirst_72 : decode b_Md_sayFirst 72 = .ok (.return_, 1) := by decide +kernel
theorem d_Md_inMembersCells_0 : decode b_Md_inMembersCells 0 = .ok (.iconst (0), 1) := by decide +kernel
theorem d_Md_inMembersCells_1 : decode b_Md_inMembersCells 1 = .ok (.istore_n 3, 1) := by decide +kernel
theorem d_Md_inMembersCells_2 : decode b_Md_inMembersCells 2 = .ok (.iload_n 3, 1) := by decide +kernel
theorem d_Md_inMembersCells_3 : decode b_Md_inMembersCells 3 = .ok (.iconst (3), 1) := by decide +kernel
theorem d_Md_inMembersCells_4 : decode b_Md_inMembersCells 4 = .ok (.if_icmp .ge (68), 3) := by decide +kernel
theorem d_Md_inMembersCells_7 : decode b_Md_inMembersCells 7 = .ok (.iconst (0), 1) := by decide +kernel
theorem d_Md_inMembersCells_8 : decode b_Md_inMembersCells 8 = .ok (.istore 4, 2) := by decide +kernel
theorem d_Md_inMembersCells_10 : decode b_Md_inMembersCells 10 = .ok (.iconst (0), 1) := by decide +kernel
theorem d_Md_inMembersCells_11 : decode b_Md_inMembersCells 11 = .ok (.istore 5, 2) := by decide +kernel
theorem d_Md_inMembersCells_13 : decode b_Md_inMembersCells 13 = .ok (.iload 5, 2) := by decide +kernel
theorem d_Md_inMembersCells_15 : decode b_Md_inMembersCells 15 = .ok (.bipush (8), 2) := by decide +kernel
theorem d_Md_inMembersCells_17 : decode b_Md_inMembersCells 17 = .ok (.if_icmp .ge (38), 3) := by decide +kernel
theorem d_Md_inMembersCells_20 : decode b_Md_inMembersCells 20 = .ok (.aload_n 0, 1) := by decide +kernel
theorem d_Md_inMembersCells_21 : decode b_Md_inMembersCells 21 = .ok (.getfield 91, 3) := by decide +kernel
theorem d_Md_inMembersCells_24 : decode b_Md_inMembersCells 24 = .ok (.iload 5, 2) := by decide +kernel
theorem d_Md_inMembersCells_26 : decode b_Md_inMembersCells 26 = .ok (.iaload, 1) := by decide +kernel
theorem d_Md_inMembersCells_27 : decode b_Md_inMembersCells 27 = .ok (.iload_n 3, 1) := by decide +kernel
theorem d_Md_inMembersCells_28 : decode b_Md_inMembersCells 28 = .ok (.if_icmp .ne (21), 3) := by decide +kernel
theorem d_Md_inMembersCells_31 : decode b_Md_inMembersCells 31 = .ok (.aload_n 0, 1) := by decide +kernel
theorem d_Md_inMembersCells_32 : decode b_Md_inMembersCells 32 = .ok (.getfield 36, 3) := by decide +kernel
theorem d_Md_inMembersCells_35 : decode b_Md_inMembersCells 35 = .ok (.iload 5, 2) := by decide +kernel
theorem d_Md_inMembersCells_37 : decode b_Md_inMembersCells 37 = .ok (.iaload, 1) := by decide +kernel
theorem d_Md_inMembersCells_38 : decode b_Md_inMembersCells 38 = .ok (.iload_n 1, 1) := by decide +kernel
theorem d_Md_inMembersCells_39 : decode b_Md_inMembersCells 39 = .ok (.ishr, 1) := by decide +kernel
theorem d_Md_inMembersCells_40 : decode b_Md_inMembersCells 40 = .ok (.iconst (1), 1) := by decide +kernel
theorem d_Md_inMembersCells_41 : decode b_Md_inMembersCells 41 = .ok (.iand, 1) := by decide +kernel
theorem d_Md_inMembersCells_42 : decode b_Md_inMembersCells 42 = .ok (.iconst (1), 1) := by decide +kernel
theorem d_Md_inMembersCells_43 : decode b_Md_inMembersCells 43 = .ok (.if_icmp .ne (6), 3) := by decide +kernel
theorem d_Md_inMembersCells_46 : decode b_Md_inMembersCells 46 = .ok (.iconst (1), 1) := by decide +kernel
theorem d_Md_inMembersCells_47 : decode b_Md_inMembersCells 47 = .ok (.istore 4, 2) := by decide +kernel
theorem d_Md_inMembersCells_49 : decode b_Md_inMembersCells 49 = .ok (.iinc 5 (1), 3) := by decide +kernel
theorem d_Md_inMembersCells_52 : decode b_Md_inMembersCells 52 = .ok (.goto (-39), 3) := by decide +kernel
theorem d_Md_inMembersCells_55 : decode b_Md_inMembersCells 55 = .ok (.iload 4, 2) := by decide +kernel
theorem d_Md_inMembersCells_57 : decode b_Md_inMembersCells 57 = .ok (.ifCond .eq (9), 3) := by decide +kernel
theorem d_Md_inMembersCells_60 : decode b_Md_inMembersCells 60 = .ok (.aload_n 0, 1) := by decide +kernel
theorem d_Md_inMembersCells_61 : decode b_Md_inMembersCells 61 = .ok (.iload_n 3, 1) := by decide +kernel
theorem d_Md_inMembersCells_62 : decode b_Md_inMembersCells 62 = .ok (.iload_n 2, 1) := by decide +kernel
theorem d_Md_inMembersCells_63 : decode b_Md_inMembersCells 63 = .ok (.invokevirtual 154, 3) := by decide +kernel
theorem d_Md_inMembersCells_66 : decode b_Md_inMembersCells 66 = .ok (.iinc 3 (1), 3) := by decide +kernel
theorem d_Md_inMembersCells_69 : decode b_Md_inMembersCells 69 = .ok (.goto (-67), 3) := by decide +kernel
theorem d_Md_inMembersCells_72 : decode b_Md_inMembersCells 72 = .ok (.return_, 1) := by decide +kernel
theorem d_Md_freeChannel_0 : decode b_Md_freeChannel 0 = .ok (.iconst (1), 1) := by decide +kernel
theorem d_Md_freeChannel_1 : decode b_Md_freeChannel 1 = .ok (.istore_n 1, 1) := by decide +kernel
theorem d_Md_freeChannel_2 : decode b_Md_freeChannel 2 = .ok (.iload_n 1, 1) := by decide +kernel
theorem d_Md_freeChannel_3 : decode b_Md_freeChannel 3 = .ok (.iconst (4), 1) := by decide +kernel
theorem d_Md_freeChannel_4 : decode b_Md_freeChannel 4 = .ok (.if_icmp .ge (42), 3) := by decide +kernel
theorem d_Md_freeChannel_7 : decode b_Md_freeChannel 7 = .ok (.iconst (0), 1) := by decide +kernel
theorem d_Md_freeChannel_8 : decode b_Md_freeChannel 8 = .ok (.istore_n 2, 1) := by decide +kernel
theorem d_Md_freeChannel_9 : decode b_Md_freeChannel 9 = .ok (.iconst (0), 1) := by decide +kernel
theorem d_Md_freeChannel_10 : decode b_Md_freeChannel 10 = .ok (.istore_n 3, 1) := by decide +kernel
theorem d_Md_freeChannel_11 : decode b_Md_freeChannel 11 = .ok (.iload_n 3, 1) := by decide +kernel
theorem d_Md_freeChannel_12 : decode b_Md_freeChannel 12 = .ok (.iconst (4), 1) := by decide +kernel
theorem d_Md_freeChannel_13 : decode b_Md_freeChannel 13 = .ok (.if_icmp .ge (21), 3) := by decide +kernel
theorem d_Md_freeChannel_16 : decode b_Md_freeChannel 16 = .ok (.aload_n 0, 1) := by decide +kernel
theorem d_Md_freeChannel_17 : decode b_Md_freeChannel 17 = .ok (.getfield 101, 3) := by decide +kernel
theorem d_Md_freeChannel_20 : decode b_Md_freeChannel 20 = .ok (.iload_n 3, 1) := by decide +kernel
theorem d_Md_freeChannel_21 : decode b_Md_freeChannel 21 = .ok (.iaload, 1) := by decide +kernel
theorem d_Md_freeChannel_22 : decode b_Md_freeChannel 22 = .ok (.iload_n 1, 1) := by decide +kernel
theorem d_Md_freeChannel_23 : decode b_Md_freeChannel 23 = .ok (.if_icmp .ne (5), 3) := by decide +kernel
theorem d_Md_freeChannel_26 : decode b_Md_freeChannel 26 = .ok (.iconst (1), 1) := by decide +kernel
theorem d_Md_freeChannel_27 : decode b_Md_freeChannel 27 = .ok (.istore_n 2, 1) := by decide +kernel
theorem d_Md_freeChannel_28 : decode b_Md_freeChannel 28 = .ok (.iinc 3 (1), 3) := by decide +kernel
theorem d_Md_freeChannel_31 : decode b_Md_freeChannel 31 = .ok (.goto (-20), 3) := by decide +kernel
theorem d_Md_freeChannel_34 : decode b_Md_freeChannel 34 = .ok (.iload_n 2, 1) := by decide +kernel
theorem d_Md_freeChannel_35 : decode b_Md_freeChannel 35 = .ok (.ifCond .ne (5), 3) := by decide +kernel
theorem d_Md_freeChannel_38 : decode b_Md_freeChannel 38 = .ok (.iload_n 1, 1) := by decide +kernel
theorem d_Md_freeChannel_39 : decode b_Md_freeChannel 39 = .ok (.ireturn, 1) := by decide +kernel
theorem d_Md_freeChannel_40 : decode b_Md_freeChannel 40 = .ok (.iinc 1 (1), 3) := by decide +kernel
theorem d_Md_freeChannel_43 : decode b_Md_freeChannel 43 = .ok (.goto (-41), 3) := by decide +kernel
theorem d_Md_freeChannel_46 : decode b_Md_freeChannel 46 = .ok (.iconst (0), 1) := by decide +kernel
theorem d_Md_freeChannel_47 : decode b_Md_freeChannel 47 = .ok (.ireturn, 1) := by decide +kernel
theorem d_Md_serve_0 : decode b_Md_serve 0 = .ok (.aload_n 0, 1) := by decide +kernel
theorem d_Md_serve_1 : decode b_Md_serve 1 = .ok (.getfield 101, 3) := by decide +kernel
theorem d_Md_serve_4 : decode b_Md_serve 4 = .ok (.iload_n 1, 1) := by decide +kernel
theorem d_Md_serve_5 : decode b_Md_serve 5 = .ok (.iaload, 1) := by decide +kernel
theorem d_Md_serve_6 : decode b_Md_serve 6 = .ok (.ifCond .le (12), 3) := by decide +kernel
theorem d_Md_serve_9 : decode b_Md_serve 9 = .ok (.aload_n 0, 1) := by decide +kernel
theorem d_Md_serve_10 : decode b_Md_serve 10 = .ok (.getfield 101, 3) := by decide +kernel
theorem d_Md_serve_13 : decode b_Md_serve 13 = .ok (.iload_n 1, 1) := by decide +kernel
theorem d_Md_serve_14 : decode b_Md_serve 14 = .ok (.iaload, 1) := by decide +kernel
theorem d_Md_serve_15 : decode b_Md_serve 15 = .ok (.goto (7), 3) := by decide +kernel
theorem d_Md_serve_18 : decode b_Md_serve 18 = .ok (.aload_n 0, 1) := by decide +kernel
theorem d_Md_serve_19 : decode b_Md_serve 19 = .ok (.invokevirtual 158, 3) := by decide +kernel
theorem d_Md_serve_22 : decode b_Md_serve 22 = .ok (.istore_n 2, 1) := by decide +kernel
theorem d_Md_serve_23 : decode b_Md_serve 23 = .ok (.aload_n 0, 1) := by decide +kernel
theorem d_Md_serve_24 : decode b_Md_serve 24 = .ok (.getfield 113, 3) := by decide +kernel
theorem d_Md_serve_27 : decode b_Md_serve 27 = .ok (.iload_n 1, 1) := by decide +kernel
theorem d_Md_serve_28 : decode b_Md_serve 28 = .ok (.iaload, 1) := by decide +kernel
theorem d_Md_serve_29 : decode b_Md_serve 29 = .ok (.ifCond .eq (7), 3) := by decide +kernel
theorem d_Md_serve_32 : decode b_Md_serve 32 = .ok (.iload_n 2, 1) := by decide +kernel
theorem d_Md_serve_33 : decode b_Md_serve 33 = .ok (.ifCond .ne (4), 3) := by decide +kernel
theorem d_Md_serve_36 : decode b_Md_serve 36 = .ok (.return_, 1) := by decide +kernel
theorem d_Md_serve_37 : decode b_Md_serve 37 = .ok (.iconst (0), 1) := by decide +kernel
theorem d_Md_serve_38 : decode b_Md_serve 38 = .ok (.istore_n 3, 1) := by decide +kernel
theorem d_Md_serve_39 : decode b_Md_serve 39 = .ok (.iconst (1), 1) := by decide +kernel
theorem d_Md_serve_40 : decode b_Md_serve 40 = .ok (.istore 4, 2) := by decide +kernel
theorem d_Md_serve_42 : decode b_Md_serve 42 = .ok (.iload 4, 2) := by decide +kernel
theorem d_Md_serve_44 : decode b_Md_serve 44 = .ok (.aload_n 0, 1) := by decide +kernel
theorem d_Md_serve_45 : decode b_Md_serve 45 = .ok (.getfield 113, 3) := by decide +kernel
theorem d_Md_serve_48 : decode b_Md_serve 48 = .ok (.iload_n 1, 1) := by decide +kernel
theorem d_Md_serve_49 : decode b_Md_serve 49 = .ok (.iaload, 1) := by decide +kernel
theorem d_Md_serve_50 : decode b_Md_serve 50 = .ok (.if_icmp .ge (42), 3) := by decide +kernel
theorem d_Md_serve_53 : decode b_Md_serve 53 = .ok (.aload_n 0, 1) := by decide +kernel
theorem d_Md_serve_54 : decode b_Md_serve 54 = .ok (.getfield 110, 3) := by decide +kernel
theorem d_Md_serve_57 : decode b_Md_serve 57 = .ok (.bipush (6), 2) := by decide +kernel
theorem d_Md_serve_59 : decode b_Md_serve 59 = .ok (.iload_n 1, 1) := by decide +kernel
theorem d_Md_serve_60 : decode b_Md_serve 60 = .ok (.imul, 1) := by decide +kernel
theorem d_Md_serve_61 : decode b_Md_serve 61 = .ok (.iload 4, 2) := by decide +kernel
theorem d_Md_serve_63 : decode b_Md_serve 63 = .ok (.iadd, 1) := by decide +kernel
theorem d_Md_serve_64 : decode b_Md_serve 64 = .ok (.iaload, 1) := by decide +kernel
theorem d_Md_serve_65 : decode b_Md_serve 65 = .ok (.iconst (3), 1) := by decide +kernel
theorem d_Md_serve_66 : decode b_Md_serve 66 = .ok (.iand, 1) := by decide +kernel
theorem d_Md_serve_67 : decode b_Md_serve 67 = .ok (.aload_n 0, 1) := by decide +kernel
theorem d_Md_serve_68 : decode b_Md_serve 68 = .ok (.getfield 110, 3) := by decide +kernel
theorem d_Md_serve_71 : decode b_Md_serve 71 = .ok (.bipush (6), 2) := by decide +kernel
theorem d_Md_serve_73 : decode b_Md_serve 73 = .ok (.iload_n 1, 1) := by decide +kernel
theorem d_Md_serve_74 : decode b_Md_serve 74 = .ok (.imul, 1) := by decide +kernel
theorem d_Md_serve_75 : decode b_Md_serve 75 = .ok (.iload_n 3, 1) := by decide +kernel
theorem d_Md_serve_76 : decode b_Md_serve 76 = .ok (.iadd, 1) := by decide +kernel
theorem d_Md_serve_77 : decode b_Md_serve 77 = .ok (.iaload, 1) := by decide +kernel
theorem d_Md_serve_78 : decode b_Md_serve 78 = .ok (.iconst (3), 1) := by decide +kernel
theorem d_Md_serve_79 : decode b_Md_serve 79 = .ok (.iand, 1) := by decide +kernel
theorem d_Md_serve_80 : decode b_Md_serve 80 = .ok (.if_icmp .le (6), 3) := by decide +kernel
theorem d_Md_serve_83 : decode b_Md_serve 83 = .ok (.iload 4, 2) := by decide +kernel
theorem d_Md_serve_85 : decode b_Md_serve 85 = .ok (.istore_n 3, 1) := by decide +kernel
theorem d_Md_serve_86 : decode b_Md_serve 86 = .ok (.iinc 4 (1), 3) := by decide +kernel
theorem d_Md_serve_89 : decode b_Md_serve 89 = .ok (.goto (-47), 3) := by decide +kernel
theorem d_Md_serve_92 : decode b_Md_serve 92 = .ok (.aload_n 0, 1) := by decide +kernel
theorem d_Md_serve_93 : decode b_Md_serve 93 = .ok (.getfield 101, 3) := by decide +kernel
theorem d_Md_serve_96 : decode b_Md_serve 96 = .ok (.iload_n 1, 1) := by decide +kernel
theorem d_Md_serve_97 : decode b_Md_serve 97 = .ok (.iload_n 2, 1) := by decide +kernel
theorem d_Md_serve_98 : decode b_Md_serve 98 = .ok (.iastore, 1) := by decide +kernel
theorem d_Md_serve_99 : decode b_Md_serve 99 = .ok (.aload_n 0, 1) := by decide +kernel
theorem d_Md_serve_100 : decode b_Md_serve 100 = .ok (.getfield 104, 3) := by decide +kernel
theorem d_Md_serve_103 : decode b_Md_serve 103 = .ok (.iload_n 1, 1) := by decide +kernel
theorem d_Md_serve_104 : decode b_Md_serve 104 = .ok (.aload_n 0, 1) := by decide +kernel
theorem d_Md_serve_105 : decode b_Md_serve 105 = .ok (.getfield 110, 3) := by decide +kernel
theorem d_Md_serve_108 : decode b_Md_serve 108 = .ok (.bipush (6), 2) := by decide +kernel
theorem d_Md_serve_110 : decode b_Md_serve 110 = .ok (.iload_n 1, 1) := by decide +kernel
theorem d_Md_serve_111 : decode b_Md_serve 111 = .ok (.imul, 1) := by decide +kernel
theorem d_Md_serve_112 : decode b_Md_serve 112 = .ok (.iload_n 3, 1) := by decide +kernel
theorem d_Md_serve_113 : decode b_Md_serve 113 = .ok (.iadd, 1) := by decide +kernel
theorem d_Md_serve_114 : decode b_Md_serve 114 = .ok (.iaload, 1) := by decide +kernel
theorem d_Md_serve_115 : decode b_Md_serve 115 = .ok (.iconst (2), 1) := by decide +kernel
theorem d_Md_serve_116 : decode b_Md_serve 116 = .ok (.ishr, 1) := by decide +kernel
theorem d_Md_serve_117 : decode b_Md_serve 117 = .ok (.iastore, 1) := by decide +kernel
theorem d_Md_serve_118 : decode b_Md_serve 118 = .ok (.aload_n 0, 1) := by decide +kernel
theorem d_Md_serve_119 : decode b_Md_serve 119 = .ok (.getfield 107, 3) := by decide +kernel
theorem d_Md_serve_122 : decode b_Md_serve 122 = .ok (.iload_n 1, 1) := by decide +kernel
theorem d_Md_serve_123 : decode b_Md_serve 123 = .ok (.aload_n 0, 1) := by decide +kernel
theorem d_Md_serve_124 : decode b_Md_serve 124 = .ok (.getfield 122, 3) := by decide +kernel
theorem d_Md_serve_127 : decode b_Md_serve 127 = .ok (.iconst (4), 1) := by decide +kernel
theorem d_Md_serve_128 : decode b_Md_serve 128 = .ok (.idiv, 1) := by decide +kernel
theorem d_Md_serve_129 : decode b_Md_serve 129 = .ok (.iastore, 1) := by decide +kernel
theorem d_Md_serve_130 : decode b_Md_serve 130 = .ok (.aload_n 0, 1) := by decide +kernel
theorem d_Md_serve_131 : decode b_Md_serve 131 = .ok (.getfield 113, 3) := by decide +kernel
theorem d_Md_serve_134 : decode b_Md_serve 134 = .ok (.iload_n 1, 1) := by decide +kernel
theorem d_Md_serve_135 : decode b_Md_serve 135 = .ok (.aload_n 0, 1) := by decide +kernel
theorem d_Md_serve_136 : decode b_Md_serve 136 = .ok (.getfield 113, 3) := by decide +kernel
theorem d_Md_serve_139 : decode b_Md_serve 139 = .ok (.iload_n 1, 1) := by decide +kernel
theorem d_Md_serve_140 : decode b_Md_serve 140 = .ok (.iaload, 1) := by decide +kernel
theorem d_Md_serve_141 : decode b_Md_serve 141 = .ok (.iconst (1), 1) := by decide +kernel
theorem d_Md_serve_142 : decode b_Md_serve 142 = .ok (.isub, 1) := by decide +kernel
theorem d_Md_serve_143 : decode b_Md_serve 143 = .ok (.iastore, 1) := by decide +kernel
theorem d_Md_serve_144 : decode b_Md_serve 144 = .ok (.iload_n 3, 1) := by decide +kernel
theorem d_Md_serve_145 : decode b_Md_serve 145 = .ok (.istore 4, 2) := by decide +kernel
theorem d_Md_serve_147 : decode b_Md_serve 147 = .ok (.iload 4, 2) := by decide +kernel
theorem d_Md_serve_149 : decode b_Md_serve 149 = .ok (.aload_n 0, 1) := by decide +kernel
theorem d_Md_serve_150 : decode b_Md_serve 150 = .ok (.getfield 113, 3) := by decide +kernel
theorem d_Md_serve_153 : decode b_Md_serve 153 = .ok (.iload_n 1, 1) := by decide +kernel
theorem d_Md_serve_154 : decode b_Md_serve 154 = .ok (.iaload, 1) := by decide +kernel
theorem d_Md_serve_155 : decode b_Md_serve 155 = .ok (.if_icmp .ge (35), 3) := by decide +kernel
theorem d_Md_serve_158 : decode b_Md_serve 158 = .ok (.aload_n 0, 1) := by decide +kernel
theorem d_Md_serve_159 : decode b_Md_serve 159 = .ok (.getfield 110, 3) := by decide +kernel
theorem d_Md_serve_162 : decode b_Md_serve 162 = .ok (.bipush (6), 2) := by decide +kernel
theorem d_Md_serve_164 : decode b_Md_serve 164 = .ok (.iload_n 1, 1) := by decide +kernel
theorem d_Md_serve_165 : decode b_Md_serve 165 = .ok (.imul, 1) := by decide +kernel
theorem d_Md_serve_166 : decode b_Md_serve 166 = .ok (.iload 4, 2) := by decide +kernel
theorem d_Md_serve_168 : decode b_Md_serve 168 = .ok (.iadd, 1) := by decide +kernel
theorem d_Md_serve_169 : decode b_Md_serve 169 = .ok (.aload_n 0, 1) := by decide +kernel
theorem d_Md_serve_170 : decode b_Md_serve 170 = .ok (.getfield 110, 3) := by decide +kernel
theorem d_Md_serve_173 : decode b_Md_serve 173 = .ok (.bipush (6), 2) := by decide +kernel
theorem d_Md_serve_175 : decode b_Md_serve 175 = .ok (.iload_n 1, 1) := by decide +kernel
theorem d_Md_serve_176 : decode b_Md_serve 176 = .ok (.imul, 1) := by decide +kernel
theorem d_Md_serve_177 : decode b_Md_serve 177 = .ok (.iload 4, 2) := by decide +kernel
theorem d_Md_serve_179 : decode b_Md_serve 179 = .ok (.iadd, 1) := by decide +kernel
theorem d_Md_serve_180 : decode b_Md_serve 180 = .ok (.iconst (1), 1) := by decide +kernel
theorem d_Md_serve_181 : decode b_Md_serve 181 = .ok (.iadd, 1) := by decide +kernel
theorem d_Md_serve_182 : decode b_Md_serve 182 = .ok (.iaload, 1) := by decide +kernel
theorem d_Md_serve_183 : decode b_Md_serve 183 = .ok (.iastore, 1) := by decide +kernel
theorem d_Md_serve_184 : decode b_Md_serve 184 = .ok (.iinc 4 (1), 3) := by decide +kernel
theorem d_Md_serve_187 : decode b_Md_serve 187 = .ok (.goto (-40), 3) := by decide +kernel
theorem d_Md_serve_190 : decode b_Md_serve 190 = .ok (.aload_n 0, 1) := by decide +kernel
theorem d_Md_serve_191 : decode b_Md_serve 191 = .ok (.iload_n 1, 1) := by decide +kernel
theorem d_Md_serve_192 : decode b_Md_serve 192 = .ok (.bipush (9), 2) := by decide +kernel
theorem d_Md_serve_194 : decode b_Md_serve 194 = .ok (.aload_n 0, 1) := by decide +kernel
theorem d_Md_serve_195 : decode b_Md_serve 195 = .ok (.getfield 104, 3) := by decide +kernel
theorem d_Md_serve_198 : decode b_Md_serve 198 = .ok (.iload_n 1, 1) := by decide +kernel
theorem d_Md_serve_199 : decode b_Md_serve 199 = .ok (.iaload, 1) := by decide +kernel
theorem d_Md_serve_200 : decode b_Md_serve 200 = .ok (.iload_n 1, 1) := by decide +kernel
theorem d_Md_serve_201 : decode b_Md_serve 201 = .ok (.iload_n 2, 1) := by decide +kernel
theorem d_Md_serve_202 : decode b_Md_serve 202 = .ok (.iconst (0), 1) := by decide +kernel
theorem d_Md_serve_203 : decode b_Md_serve 203 = .ok (.invokestatic 162, 3) := by decide +kernel
theorem d_Md_serve_206 : decode b_Md_serve 206 = .ok (.invokevirtual 166, 3) := by decide +kernel
theorem d_Md_serve_209 : decode b_Md_serve 209 = .ok (.return_, 1) := by decide +kernel
theorem d_Md_releaseCall_0 : decode b_Md_releaseCall 0 = .ok (.aload_n 0, 1) := by decide +kernel
theorem d_Md_releaseCall_1 : decode b_Md_releaseCall 1 = .ok (.getfield 113, 3) := by decide +kernel
theorem d_Md_releaseCall_4 : decode b_Md_releaseCall 4 = .ok (.iload_n 1, 1) := by decide +kernel
theorem d_Md_releaseCall_5 : decode b_Md_releaseCall 5 = .ok (.iaload, 1) := by decide +kernel
theorem d_Md_releaseCall_6 : decode b_Md_releaseCall 6 = .ok (.ifCond .le (9), 3) := by decide +kernel
theorem d_Md_releaseCall_9 : decode b_Md_releaseCall 9 = .ok (.aload_n 0, 1) := by decide +kernel
theorem d_Md_releaseCall_10 : decode b_Md_releaseCall 10 = .ok (.iload_n 1, 1) := by decide +kernel
theorem d_Md_releaseCall_11 : decode b_Md_releaseCall 11 = .ok (.invokevirtual 169, 3) := by decide +kernel
theorem d_Md_releaseCall_14 : decode b_Md_releaseCall 14 = .ok (.return_, 1) := by decide +kernel
theorem d_Md_releaseCall_15 : decode b_Md_releaseCall 15 = .ok (.aload_n 0, 1) := by decide +kernel
theorem d_Md_releaseCall_16 : decode b_Md_releaseCall 16 = .ok (.getfield 101, 3) := by decide +kernel
theorem d_Md_releaseCall_19 : decode b_Md_releaseCall 19 = .ok (.iload_n 1, 1) := by decide +kernel
theorem d_Md_releaseCall_20 : decode b_Md_releaseCall 20 = .ok (.iaload, 1) := by decide +kernel
theorem d_Md_releaseCall_21 : decode b_Md_releaseCall 21 = .ok (.istore_n 2, 1) := by decide +kernel
theorem d_Md_releaseCall_22 : decode b_Md_releaseCall 22 = .ok (.aload_n 0, 1) := by decide +kernel
theorem d_Md_releaseCall_23 : decode b_Md_releaseCall 23 = .ok (.getfield 101, 3) := by decide +kernel
theorem d_Md_releaseCall_26 : decode b_Md_releaseCall 26 = .ok (.iload_n 1, 1) := by decide +kernel
theorem d_Md_releaseCall_27 : decode b_Md_releaseCall 27 = .ok (.iconst (0), 1) := by decide +kernel
theorem d_Md_releaseCall_28 : decode b_Md_releaseCall 28 = .ok (.iastore, 1) := by decide +kernel
theorem d_Md_releaseCall_29 : decode b_Md_releaseCall 29 = .ok (.aload_n 0, 1) := by decide +kernel
theorem d_Md_releaseCall_30 : decode b_Md_releaseCall 30 = .ok (.iload_n 1, 1) := by decide +kernel
theorem d_Md_releaseCall_31 : decode b_Md_releaseCall 31 = .ok (.bipush (10), 2) := by decide +kernel
theorem d_Md_releaseCall_33 : decode b_Md_releaseCall 33 = .ok (.iconst (0), 1) := by decide +kernel
theorem d_Md_releaseCall_34 : decode b_Md_releaseCall 34 = .ok (.iload_n 1, 1) := by decide +kernel
theorem d_Md_releaseCall_35 : decode b_Md_releaseCall 35 = .ok (.iload_n 2, 1) := by decide +kernel
theorem d_Md_releaseCall_36 : decode b_Md_releaseCall 36 = .ok (.iconst (0), 1) := by decide +kernel
theorem d_Md_releaseCall_37 : decode b_Md_releaseCall 37 = .ok (.invokestatic 162, 3) := by decide +kernel
theorem d_Md_releaseCall_40 : decode b_Md_releaseCall 40 = .ok (.invokevirtual 166, 3) := by decide +kernel
theorem d_Md_releaseCall_43 : decode b_Md_releaseCall 43 = .ok (.iconst (0), 1) := by decide +kernel
theorem d_Md_releaseCall_44 : decode b_Md_releaseCall 44 = .ok (.istore_n 3, 1) := by decide +kernel
theorem d_Md_releaseCall_45 : decode b_Md_releaseCall 45 = .ok (.iload_n 3, 1) := by decide +kernel
theorem d_Md_releaseCall_46 : decode b_Md_releaseCall 46 = .ok (.iconst (4), 1) := by decide +kernel
theorem d_Md_releaseCall_47 : decode b_Md_releaseCall 47 = .ok (.if_icmp .ge (23), 3) := by decide +kernel
theorem d_Md_releaseCall_50 : decode b_Md_releaseCall 50 = .ok (.aload_n 0, 1) := by decide +kernel
theorem d_Md_releaseCall_51 : decode b_Md_releaseCall 51 = .ok (.getfield 101, 3) := by decide +kernel
theorem d_Md_releaseCall_54 : decode b_Md_releaseCall 54 = .ok (.iload_n 3, 1) := by decide +kernel
theorem d_Md_releaseCall_55 : decode b_Md_releaseCall 55 = .ok (.iaload, 1) := by decide +kernel
theorem d_Md_releaseCall_56 : decode b_Md_releaseCall 56 = .ok (.ifCond .ne (8), 3) := by decide +kernel
theorem d_Md_releaseCall_59 : decode b_Md_releaseCall 59 = .ok (.aload_n 0, 1) := by decide +kernel
theorem d_Md_releaseCall_60 : decode b_Md_releaseCall 60 = .ok (.iload_n 3, 1) := by decide +kernel
theorem d_Md_releaseCall_61 : decode b_Md_releaseCall 61 = .ok (.invokevirtual 169, 3) := by decide +kernel
theorem d_Md_releaseCall_64 : decode b_Md_releaseCall 64 = .ok (.iinc 3 (1), 3) := by decide +kernel
theorem d_Md_releaseCall_67 : decode b_Md_releaseCall 67 = .ok (.goto (-22), 3) := by decide +kernel
theorem d_Md_releaseCall_70 : decode b_Md_releaseCall 70 = .ok (.return_, 1) := by decide +kernel
theorem d_Md_requested_0 : decode b_Md_requested 0 = .ok (.aload_n 0, 1) := by decide +kernel
theorem d_Md_requested_1 : decode b_Md_requested 1 = .ok (.getfield 36, 3) := by decide +kernel
theorem d_Md_requested_4 : decode b_Md_requested 4 = .ok (.iload_n 1, 1) := by decide +kernel
theorem d_Md_requested_5 : decode b_Md_requested 5 = .ok (.iaload, 1) := by decide +kernel
theorem d_Md_requested_6 : decode b_Md_requested 6 = .ok (.iload_n 2, 1) := by decide +kernel
theorem d_Md_requested_7 : decode b_Md_requested 7 = .ok (.ishr, 1) := by decide +kernel
theorem d_Md_requested_8 : decode b_Md_requested 8 = .ok (.iconst (1), 1) := by decide +kernel
theorem d_Md_requested_9 : decode b_Md_requested 9 = .ok (.iand, 1) := by decide +kernel
theorem d_Md_requested_10 : decode b_Md_requested 10 = .ok (.ifCond .ne (4), 3) := by decide +kernel
theorem d_Md_requested_13 : decode b_Md_requested 13 = .ok (.return_, 1) := by decide +kernel
theorem d_Md_requested_14 : decode b_Md_requested 14 = .ok (.aload_n 0, 1) := by decide +kernel
theorem d_Md_requested_15 : decode b_Md_requested 15 = .ok (.getfield 101, 3) := by decide +kernel
theorem d_Md_requested_18 : decode b_Md_requested 18 = .ok (.iload_n 2, 1) := by decide +kernel
theorem d_Md_requested_19 : decode b_Md_requested 19 = .ok (.iaload, 1) := by decide +kernel
theorem d_Md_requested_20 : decode b_Md_requested 20 = .ok (.ifCond .le (17), 3) := by decide +kernel
theorem d_Md_requested_23 : decode b_Md_requested 23 = .ok (.aload_n 0, 1) := by decide +kernel
theorem d_Md_requested_24 : decode b_Md_requested 24 = .ok (.getfield 104, 3) := by decide +kernel
theorem d_Md_requested_27 : decode b_Md_requested 27 = .ok (.iload_n 2, 1) := by decide +kernel
theorem d_Md_requested_28 : decode b_Md_requested 28 = .ok (.iaload, 1) := by decide +kernel
theorem d_Md_requested_29 : decode b_Md_requested 29 = .ok (.iload_n 1, 1) := by decide +kernel
theorem d_Md_requested_30 : decode b_Md_requested 30 = .ok (.if_icmp .ne (7), 3) := by decide +kernel
theorem d_Md_requested_33 : decode b_Md_requested 33 = .ok (.iconst (1), 1) := by decide +kernel
theorem d_Md_requested_34 : decode b_Md_requested 34 = .ok (.goto (4), 3) := by decide +kernel
theorem d_Md_requested_37 : decode b_Md_requested 37 = .ok (.iconst (0), 1) := by decide +kernel
theorem d_Md_requested_38 : decode b_Md_requested 38 = .ok (.istore 4, 2) := by decide +kernel
theorem d_Md_requested_40 : decode b_Md_requested 40 = .ok (.iconst (0), 1) := by decide +kernel
theorem d_Md_requested_41 : decode b_Md_requested 41 = .ok (.istore 5, 2) := by decide +kernel
theorem d_Md_requested_43 : decode b_Md_requested 43 = .ok (.iload 5, 2) := by decide +kernel
theorem d_Md_requested_45 : decode b_Md_requested 45 = .ok (.aload_n 0, 1) := by decide +kernel
theorem d_Md_requested_46 : decode b_Md_requested 46 = .ok (.getfield 113, 3) := by decide +kernel
theorem d_Md_requested_49 : decode b_Md_requested 49 = .ok (.iload_n 2, 1) := by decide +kernel
theorem d_Md_requested_50 : decode b_Md_requested 50 = .ok (.iaload, 1) := by decide +kernel
theorem d_Md_requested_51 : decode b_Md_requested 51 = .ok (.if_icmp .ge (30), 3) := by decide +kernel
theorem d_Md_requested_54 : decode b_Md_requested 54 = .ok (.aload_n 0, 1) := by decide +kernel
theorem d_Md_requested_55 : decode b_Md_requested 55 = .ok (.getfield 110, 3) := by decide +kernel
theorem d_Md_requested_58 : decode b_Md_requested 58 = .ok (.bipush (6), 2) := by decide +kernel
theorem d_Md_requested_60 : decode b_Md_requested 60 = .ok (.iload_n 2, 1) := by decide +kernel
theorem d_Md_requested_61 : decode b_Md_requested 61 = .ok (.imul, 1) := by decide +kernel
theorem d_Md_requested_62 : decode b_Md_requested 62 = .ok (.iload 5, 2) := by decide +kernel
theorem d_Md_requested_64 : decode b_Md_requested 64 = .ok (.iadd, 1) := by decide +kernel
theorem d_Md_requested_65 : decode b_Md_requested 65 = .ok (.iaload, 1) := by decide +kernel
theorem d_Md_requested_66 : decode b_Md_requested 66 = .ok (.iconst (2), 1) := by decide +kernel
theorem d_Md_requested_67 : decode b_Md_requested 67 = .ok (.ishr, 1) := by decide +kernel
theorem d_Md_requested_68 : decode b_Md_requested 68 = .ok (.iload_n 1, 1) := by decide +kernel
theorem d_Md_requested_69 : decode b_Md_requested 69 = .ok (.if_icmp .ne (6), 3) := by decide +kernel
theorem d_Md_requested_72 : decode b_Md_requested 72 = .ok (.iconst (1), 1) := by decide +kernel
theorem d_Md_requested_73 : decode b_Md_requested 73 = .ok (.istore 4, 2) := by decide +kernel
theorem d_Md_requested_75 : decode b_Md_requested 75 = .ok (.iinc 5 (1), 3) := by decide +kernel
theorem d_Md_requested_78 : decode b_Md_requested 78 = .ok (.goto (-35), 3) := by decide +kernel
theorem d_Md_requested_81 : decode b_Md_requested 81 = .ok (.iload 4, 2) := by decide +kernel
theorem d_Md_requested_83 : decode b_Md_requested 83 = .ok (.ifCond .ne (49), 3) := by decide +kernel
theorem d_Md_requested_86 : decode b_Md_requested 86 = .ok (.aload_n 0, 1) := by decide +kernel
theorem d_Md_requested_87 : decode b_Md_requested 87 = .ok (.getfield 113, 3) := by decide +kernel
theorem d_Md_requested_90 : decode b_Md_requested 90 = .ok (.iload_n 2, 1) := by decide +kernel
theorem d_Md_requested_91 : decode b_Md_requested 91 = .ok (.iaload, 1) := by decide +kernel
theorem d_Md_requested_92 : decode b_Md_requested 92 = .ok (.bipush (6), 2) := by decide +kernel
theorem d_Md_requested_94 : decode b_Md_requested 94 = .ok (.if_icmp .ge (38), 3) := by decide +kernel
theorem d_Md_requested_97 : decode b_Md_requested 97 = .ok (.aload_n 0, 1) := by decide +kernel
theorem d_Md_requested_98 : decode b_Md_requested 98 = .ok (.getfield 110, 3) := by decide +kernel
theorem d_Md_requested_101 : decode b_Md_requested 101 = .ok (.bipush (6), 2) := by decide +kernel
theorem d_Md_requested_103 : decode b_Md_requested 103 = .ok (.iload_n 2, 1) := by decide +kernel
theorem d_Md_requested_104 : decode b_Md_requested 104 = .ok (.imul, 1) := by decide +kernel
theorem d_Md_requested_105 : decode b_Md_requested 105 = .ok (.aload_n 0, 1) := by decide +kernel
theorem d_Md_requested_106 : decode b_Md_requested 106 = .ok (.getfield 113, 3) := by decide +kernel
theorem d_Md_requested_109 : decode b_Md_requested 109 = .ok (.iload_n 2, 1) := by decide +kernel
theorem d_Md_requested_110 : decode b_Md_requested 110 = .ok (.iaload, 1) := by decide +kernel
theorem d_Md_requested_111 : decode b_Md_requested 111 = .ok (.iadd, 1) := by decide +kernel
theorem d_Md_requested_112 : decode b_Md_requested 112 = .ok (.iconst (4), 1) := by decide +kernel
theorem d_Md_requested_113 : decode b_Md_requested 113 = .ok (.iload_n 1, 1) := by decide +kernel
theorem d_Md_requested_114 : decode b_Md_requested 114 = .ok (.imul, 1) := by decide +kernel
theorem d_Md_requested_115 : decode b_Md_requested 115 = .ok (.iload_n 3, 1) := by decide +kernel
theorem d_Md_requested_116 : decode b_Md_requested 116 = .ok (.iadd, 1) := by decide +kernel
theorem d_Md_requested_117 : decode b_Md_requested 117 = .ok (.iastore, 1) := by decide +kernel
theorem d_Md_requested_118 : decode b_Md_requested 118 = .ok (.aload_n 0, 1) := by decide +kernel
theorem d_Md_requested_119 : decode b_Md_requested 119 = .ok (.getfield 113, 3) := by decide +kernel
theorem d_Md_requested_122 : decode b_Md_requested 122 = .ok (.iload_n 2, 1) := by decide +kernel
theorem d_Md_requested_123 : decode b_Md_requested 123 = .ok (.aload_n 0, 1) := by decide +kernel
theorem d_Md_requested_124 : decode b_Md_requested 124 = .ok (.getfield 113, 3) := by decide +kernel
theorem d_Md_requested_127 : decode b_Md_requested 127 = .ok (.iload_n 2, 1) := by decide +kernel
theorem d_Md_requested_128 : decode b_Md_requested 128 = .ok (.iaload, 1) := by decide +kernel
theorem d_Md_requested_129 : decode b_Md_requested 129 = .ok (.iconst (1), 1) := by decide +kernel
theorem d_Md_requested_130 : decode b_Md_requested 130 = .ok (.iadd, 1) := by decide +kernel
theorem d_Md_requested_131 : decode b_Md_requested 131 = .ok (.iastore, 1) := by decide +kernel
theorem d_Md_requested_132 : decode b_Md_requested 132 = .ok (.aload_n 0, 1) := by decide +kernel
theorem d_Md_requested_133 : decode b_Md_requested 133 = .ok (.getfield 101, 3) := by decide +kernel
theorem d_Md_requested_136 : decode b_Md_requested 136 = .ok (.iload_n 2, 1) := by decide +kernel
theorem d_Md_requested_137 : decode b_Md_requested 137 = .ok (.iaload, 1) := by decide +kernel
theorem d_Md_requested_138 : decode b_Md_requested 138 = .ok (.ifCond .ne (8), 3) := by decide +kernel
theorem d_Md_requested_141 : decode b_Md_requested 141 = .ok (.aload_n 0, 1) := by decide +kernel
theorem d_Md_requested_142 : decode b_Md_requested 142 = .ok (.iload_n 2, 1) := by decide +kernel
theorem d_Md_requested_143 : decode b_Md_requested 143 = .ok (.invokevirtual 169, 3) := by decide +kernel
theorem d_Md_requested_146 : decode b_Md_requested 146 = .ok (.return_, 1) := by decide +kernel
theorem d_Md_switched_0 : decode b_Md_switched 0 = .ok (.iload_n 2, 1) := by decide +kernel
theorem d_Md_switched_1 : decode b_Md_switched 1 = .ok (.bipush (16), 2) := by decide +kernel
theorem d_Md_switched_3 : decode b_Md_switched 3 = .ok (.ishr, 1) := by decide +kernel
theorem d_Md_switched_4 : decode b_Md_switched 4 = .ok (.istore_n 3, 1) := by decide +kernel
theorem d_Md_switched_5 : decode b_Md_switched 5 = .ok (.iload_n 2, 1) := by decide +kernel
theorem d_Md_switched_6 : decode b_Md_switched 6 = .ok (.bipush (13), 2) := by decide +kernel
theorem d_Md_switched_8 : decode b_Md_switched 8 = .ok (.ishr, 1) := by decide +kernel
theorem d_Md_switched_9 : decode b_Md_switched 9 = .ok (.bipush (7), 2) := by decide +kernel
theorem d_Md_switched_11 : decode b_Md_switched 11 = .ok (.iand, 1) := by decide +kernel
theorem d_Md_switched_12 : decode b_Md_switched 12 = .ok (.istore 4, 2) := by decide +kernel
theorem d_Md_switched_14 : decode b_Md_switched 14 = .ok (.iload_n 2, 1) := by decide +kernel
theorem d_Md_switched_15 : decode b_Md_switched 15 = .ok (.bipush (11), 2) := by decide +kernel
theorem d_Md_switched_17 : decode b_Md_switched 17 = .ok (.ishr, 1) := by decide +kernel
theorem d_Md_switched_18 : decode b_Md_switched 18 = .ok (.iconst (3), 1) := by decide +kernel
theorem d_Md_switched_19 : decode b_Md_switched 19 = .ok (.iand, 1) := by decide +kernel
theorem d_Md_switched_20 : decode b_Md_switched 20 = .ok (.istore 5, 2) := by decide +kernel
theorem d_Md_switched_22 : decode b_Md_switched 22 = .ok (.iload_n 2, 1) := by decide +kernel
theorem d_Md_switched_23 : decode b_Md_switched 23 = .ok (.bipush (9), 2) := by decide +kernel
theorem d_Md_switched_25 : decode b_Md_switched 25 = .ok (.ishr, 1) := by decide +kernel
theorem d_Md_switched_26 : decode b_Md_switched 26 = .ok (.iconst (3), 1) := by decide +kernel
theorem d_Md_switched_27 : decode b_Md_switched 27 = .ok (.iand, 1) := by decide +kernel
theorem d_Md_switched_28 : decode b_Md_switched 28 = .ok (.istore 6, 2) := by decide +kernel
theorem d_Md_switched_30 : decode b_Md_switched 30 = .ok (.iload_n 2, 1) := by decide +kernel
theorem d_Md_switched_31 : decode b_Md_switched 31 = .ok (.sipush (511), 3) := by decide +kernel
theorem d_Md_switched_34 : decode b_Md_switched 34 = .ok (.iand, 1) := by decide +kernel
theorem d_Md_switched_35 : decode b_Md_switched 35 = .ok (.istore 7, 2) := by decide +kernel
theorem d_Md_switched_37 : decode b_Md_switched 37 = .ok (.iload_n 3, 1) := by decide +kernel
theorem d_Md_switched_38 : decode b_Md_switched 38 = .ok (.iconst (1), 1) := by decide +kernel
theorem d_Md_switched_39 : decode b_Md_switched 39 = .ok (.if_icmp .ne (39), 3) := by decide +kernel
theorem d_Md_switched_42 : decode b_Md_switched 42 = .ok (.aload_n 0, 1) := by decide +kernel
theorem d_Md_switched_43 : decode b_Md_switched 43 = .ok (.getfield 33, 3) := by decide +kernel
theorem d_Md_switched_46 : decode b_Md_switched 46 = .ok (.iload 4, 2) := by decide +kernel
theorem d_Md_switched_48 : decode b_Md_switched 48 = .ok (.iaload, 1) := by decide +kernel
theorem d_Md_switched_49 : decode b_Md_switched 49 = .ok (.aload_n 0, 1) := by decide +kernel
theorem d_Md_switched_50 : decode b_Md_switched 50 = .ok (.getfield 122, 3) := by decide +kernel
theorem d_Md_switched_53 : decode b_Md_switched 53 = .ok (.iconst (4), 1) := by decide +kernel
theorem d_Md_switched_54 : decode b_Md_switched 54 = .ok (.idiv, 1) := by decide +kernel
theorem d_Md_switched_55 : decode b_Md_switched 55 = .ok (.invokestatic 173, 3) := by decide +kernel
theorem d_Md_switched_58 : decode b_Md_switched 58 = .ok (.sipush (511), 3) := by decide +kernel
theorem d_Md_switched_61 : decode b_Md_switched 61 = .ok (.iand, 1) := by decide +kernel
theorem d_Md_switched_62 : decode b_Md_switched 62 = .ok (.iload 7, 2) := by decide +kernel
theorem d_Md_switched_64 : decode b_Md_switched 64 = .ok (.if_icmp .ne (97), 3) := by decide +kernel
theorem d_Md_switched_67 : decode b_Md_switched 67 = .ok (.aload_n 0, 1) := by decide +kernel
theorem d_Md_switched_68 : decode b_Md_switched 68 = .ok (.getfield 91, 3) := by decide +kernel
theorem d_Md_switched_71 : decode b_Md_switched 71 = .ok (.iload 4, 2) := by decide +kernel
theorem d_Md_switched_73 : decode b_Md_switched 73 = .ok (.iload_n 1, 1) := by decide +kernel
theorem d_Md_switched_74 : decode b_Md_switched 74 = .ok (.iastore, 1) := by decide +kernel
theorem d_Md_switched_75 : decode b_Md_switched 75 = .ok (.goto (86), 3) := by decide +kernel
theorem d_Md_switched_78 : decode b_Md_switched 78 = .ok (.aload_n 0, 1) := by decide +kernel
theorem d_Md_switched_79 : decode b_Md_switched 79 = .ok (.getfield 91, 3) := by decide +kernel
theorem d_Md_switched_82 : decode b_Md_switched 82 = .ok (.iload 4, 2) := by decide +kernel
theorem d_Md_switched_84 : decode b_Md_switched 84 = .ok (.iaload, 1) := by decide +kernel
theorem d_Md_switched_85 : decode b_Md_switched 85 = .ok (.iload_n 1, 1) := by decide +kernel
theorem d_Md_switched_86 : decode b_Md_switched 86 = .ok (.if_icmp .ne (75), 3) := by decide +kernel
theorem d_Md_switched_89 : decode b_Md_switched 89 = .ok (.iconst (4), 1) := by decide +kernel
theorem d_Md_switched_90 : decode b_Md_switched 90 = .ok (.iload 5, 2) := by decide +kernel
theorem d_Md_switched_92 : decode b_Md_switched 92 = .ok (.imul, 1) := by decide +kernel
theorem d_Md_switched_93 : decode b_Md_switched 93 = .ok (.iload 6, 2) := by decide +kernel
theorem d_Md_switched_95 : decode b_Md_switched 95 = .ok (.iadd, 1) := by decide +kernel
theorem d_Md_switched_96 : decode b_Md_switched 96 = .ok (.istore 8, 2) := by decide +kernel
theorem d_Md_switched_98 : decode b_Md_switched 98 = .ok (.iload_n 3, 1) := by decide +kernel
theorem d_Md_switched_99 : decode b_Md_switched 99 = .ok (.iconst (2), 1) := by decide +kernel
theorem d_Md_switched_100 : decode b_Md_switched 100 = .ok (.if_icmp .ne (16), 3) := by decide +kernel
theorem d_Md_switched_103 : decode b_Md_switched 103 = .ok (.aload_n 0, 1) := by decide +kernel
theorem d_Md_switched_104 : decode b_Md_switched 104 = .ok (.iload 4, 2) := by decide +kernel
theorem d_Md_switched_106 : decode b_Md_switched 106 = .ok (.iload 5, 2) := by decide +kernel
theorem d_Md_switched_108 : decode b_Md_switched 108 = .ok (.iload 6, 2) := by decide +kernel
theorem d_Md_switched_110 : decode b_Md_switched 110 = .ok (.invokevirtual 177, 3) := by decide +kernel
theorem d_Md_switched_113 : decode b_Md_switched 113 = .ok (.goto (48), 3) := by decide +kernel
theorem d_Md_switched_116 : decode b_Md_switched 116 = .ok (.iload 8, 2) := by decide +kernel
theorem d_Md_switched_118 : decode b_Md_switched 118 = .ok (.bipush (8), 2) := by decide +kernel
theorem d_Md_switched_120 : decode b_Md_switched 120 = .ok (.if_icmp .ge (41), 3) := by decide +kernel
theorem d_Md_switched_123 : decode b_Md_switched 123 = .ok (.aload_n 0, 1) := by decide +kernel
theorem d_Md_switched_124 : decode b_Md_switched 124 = .ok (.getfield 91, 3) := by decide +kernel
theorem d_Md_switched_127 : decode b_Md_switched 127 = .ok (.iload 8, 2) := by decide +kernel
theorem d_Md_switched_129 : decode b_Md_switched 129 = .ok (.iaload, 1) := by decide +kernel
theorem d_Md_switched_130 : decode b_Md_switched 130 = .ok (.ifCond .lt (31), 3) := by decide +kernel
theorem d_Md_switched_133 : decode b_Md_switched 133 = .ok (.aload_n 0, 1) := by decide +kernel
theorem d_Md_switched_134 : decode b_Md_switched 134 = .ok (.aload_n 0, 1) := by decide +kernel
theorem d_Md_switched_135 : decode b_Md_switched 135 = .ok (.getfield 91, 3) := by decide +kernel
theorem d_Md_switched_138 : decode b_Md_switched 138 = .ok (.iload 8, 2) := by decide +kernel
theorem d_Md_switched_140 : decode b_Md_switched 140 = .ok (.iaload, 1) := by decide +kernel
theorem d_Md_switched_141 : decode b_Md_switched 141 = .ok (.bipush (11), 2) := by decide +kernel
theorem d_Md_switched_143 : decode b_Md_switched 143 = .ok (.iload 8, 2) := by decide +kernel
theorem d_Md_switched_145 : decode b_Md_switched 145 = .ok (.iload 4, 2) := by decide +kernel
theorem d_Md_switched_147 : decode b_Md_switched 147 = .ok (.iconst (2), 1) := by decide +kernel
theorem d_Md_switched_148 : decode b_Md_switched 148 = .ok (.ishr, 1) := by decide +kernel
theorem d_Md_switched_149 : decode b_Md_switched 149 = .ok (.iload 4, 2) := by decide +kernel
theorem d_Md_switched_151 : decode b_Md_switched 151 = .ok (.iconst (3), 1) := by decide +kernel
theorem d_Md_switched_152 : decode b_Md_switched 152 = .ok (.iand, 1) := by decide +kernel
theorem d_Md_switched_153 : decode b_Md_switched 153 = .ok (.iload 7, 2) := by decide +kernel
theorem d_Md_switched_155 : decode b_Md_switched 155 = .ok (.invokestatic 162, 3) := by decide +kernel
theorem d_Md_switched_158 : decode b_Md_switched 158 = .ok (.invokevirtual 154, 3) := by decide +kernel
theorem d_Md_switched_161 : decode b_Md_switched 161 = .ok (.return_, 1) := by decide +kernel
theorem d_Md_noMessage_0 : decode b_Md_noMessage 0 = .ok (.aload_n 0, 1) := by decide +kernel
theorem d_Md_noMessage_1 : decode b_Md_noMessage 1 = .ok (.getfield 39, 3) := by decide +kernel
theorem d_Md_noMessage_4 : decode b_Md_noMessage 4 = .ok (.iload_n 1, 1) := by decide +kernel
theorem d_Md_noMessage_5 : decode b_Md_noMessage 5 = .ok (.iconst (0), 1) := by decide +kernel
theorem d_Md_noMessage_6 : decode b_Md_noMessage 6 = .ok (.iastore, 1) := by decide +kernel
theorem d_Md_noMessage_7 : decode b_Md_noMessage 7 = .ok (.aload_n 0, 1) := by decide +kernel
theorem d_Md_noMessage_8 : decode b_Md_noMessage 8 = .ok (.getfield 48, 3) := by decide +kernel
theorem d_Md_noMessage_11 : decode b_Md_noMessage 11 = .ok (.iload_n 1, 1) := by decide +kernel
theorem d_Md_noMessage_12 : decode b_Md_noMessage 12 = .ok (.iconst (0), 1) := by decide +kernel
theorem d_Md_noMessage_13 : decode b_Md_noMessage 13 = .ok (.iastore, 1) := by decide +kernel
theorem d_Md_noMessage_14 : decode b_Md_noMessage 14 = .ok (.aload_n 0, 1) := by decide +kernel
theorem d_Md_noMessage_15 : decode b_Md_noMessage 15 = .ok (.getfield 51, 3) := by decide +kernel
theorem d_Md_noMessage_18 : decode b_Md_noMessage 18 = .ok (.iload_n 1, 1) := by decide +kernel
theorem d_Md_noMessage_19 : decode b_Md_noMessage 19 = .ok (.iconst (0), 1) := by decide +kernel
theorem d_Md_noMessage_20 : decode b_Md_noMessage 20 = .ok (.iastore, 1) := by decide +kernel
theorem d_Md_noMessage_21 : decode b_Md_noMessage 21 = .ok (.return_, 1) := by decide +kernel
theorem d_Md_idle_0 : decode b_Md_idle 0 = .ok (.aload_n 0, 1) := by decide +kernel
theorem d_Md_idle_1 : decode b_Md_idle 1 = .ok (.getfield 58, 3) := by decide +kernel
theorem d_Md_idle_4 : decode b_Md_idle 4 = .ok (.iload_n 1, 1) := by decide +kernel
theorem d_Md_idle_5 : decode b_Md_idle 5 = .ok (.iconst (0), 1) := by decide +kernel
theorem d_Md_idle_6 : decode b_Md_idle 6 = .ok (.iastore, 1) := by decide +kernel
theorem d_Md_idle_7 : decode b_Md_idle 7 = .ok (.return_, 1) := by decide +kernel
theorem d_Md_message_0 : decode b_Md_message 0 = .ok (.aload_n 0, 1) := by decide +kernel
theorem d_Md_message_1 : decode b_Md_message 1 = .ok (.getfield 39, 3) := by decide +kernel
theorem d_Md_message_4 : decode b_Md_message 4 = .ok (.iload_n 1, 1) := by decide +kernel
theorem d_Md_message_5 : decode b_Md_message 5 = .ok (.iaload, 1) := by decide +kernel
theorem d_Md_message_6 : decode b_Md_message 6 = .ok (.iconst (1), 1) := by decide +kernel
theorem d_Md_message_7 : decode b_Md_message 7 = .ok (.if_icmp .ne (25), 3) := by decide +kernel
theorem d_Md_message_10 : decode b_Md_message 10 = .ok (.aload_n 0, 1) := by decide +kernel
theorem d_Md_message_11 : decode b_Md_message 11 = .ok (.getfield 30, 3) := by decide +kernel
theorem d_Md_message_14 : decode b_Md_message 14 = .ok (.iload_n 1, 1) := by decide +kernel
theorem d_Md_message_15 : decode b_Md_message 15 = .ok (.iaload, 1) := by decide +kernel
theorem d_Md_message_16 : decode b_Md_message 16 = .ok (.aload_n 0, 1) := by decide +kernel
theorem d_Md_message_17 : decode b_Md_message 17 = .ok (.getfield 122, 3) := by decide +kernel
theorem d_Md_message_20 : decode b_Md_message 20 = .ok (.iconst (4), 1) := by decide +kernel
theorem d_Md_message_21 : decode b_Md_message 21 = .ok (.idiv, 1) := by decide +kernel
theorem d_Md_message_22 : decode b_Md_message 22 = .ok (.invokestatic 173, 3) := by decide +kernel
theorem d_Md_message_25 : decode b_Md_message 25 = .ok (.sipush (511), 3) := by decide +kernel
theorem d_Md_message_28 : decode b_Md_message 28 = .ok (.iand, 1) := by decide +kernel
theorem d_Md_message_29 : decode b_Md_message 29 = .ok (.goto (9), 3) := by decide +kernel
theorem d_Md_message_32 : decode b_Md_message 32 = .ok (.aload_n 0, 1) := by decide +kernel
theorem d_Md_message_33 : decode b_Md_message 33 = .ok (.getfield 45, 3) := by decide +kernel
theorem d_Md_message_36 : decode b_Md_message 36 = .ok (.iload_n 1, 1) := by decide +kernel
theorem d_Md_message_37 : decode b_Md_message 37 = .ok (.iaload, 1) := by decide +kernel
theorem d_Md_message_38 : decode b_Md_message 38 = .ok (.istore_n 2, 1) := by decide +kernel
theorem d_Md_message_39 : decode b_Md_message 39 = .ok (.aload_n 0, 1) := by decide +kernel
theorem d_Md_message_40 : decode b_Md_message 40 = .ok (.getfield 39, 3) := by decide +kernel
theorem d_Md_message_43 : decode b_Md_message 43 = .ok (.iload_n 1, 1) := by decide +kernel
theorem d_Md_message_44 : decode b_Md_message 44 = .ok (.iaload, 1) := by decide +kernel
theorem d_Md_message_45 : decode b_Md_message 45 = .ok (.iload_n 1, 1) := by decide +kernel
theorem d_Md_message_46 : decode b_Md_message 46 = .ok (.aload_n 0, 1) := by decide +kernel
theorem d_Md_message_47 : decode b_Md_message 47 = .ok (.getfield 42, 3) := by decide +kernel
theorem d_Md_message_50 : decode b_Md_message 50 = .ok (.iload_n 1, 1) := by decide +kernel
theorem d_Md_message_51 : decode b_Md_message 51 = .ok (.iaload, 1) := by decide +kernel
theorem d_Md_message_52 : decode b_Md_message 52 = .ok (.iconst (2), 1) := by decide +kernel
theorem d_Md_message_53 : decode b_Md_message 53 = .ok (.ishr, 1) := by decide +kernel
theorem d_Md_message_54 : decode b_Md_message 54 = .ok (.aload_n 0, 1) := by decide +kernel
theorem d_Md_message_55 : decode b_Md_message 55 = .ok (.getfield 42, 3) := by decide +kernel
theorem d_Md_message_58 : decode b_Md_message 58 = .ok (.iload_n 1, 1) := by decide +kernel
theorem d_Md_message_59 : decode b_Md_message 59 = .ok (.iaload, 1) := by decide +kernel
theorem d_Md_message_60 : decode b_Md_message 60 = .ok (.iconst (3), 1) := by decide +kernel
theorem d_Md_message_61 : decode b_Md_message 61 = .ok (.iand, 1) := by decide +kernel
theorem d_Md_message_62 : decode b_Md_message 62 = .ok (.iload_n 2, 1) := by decide +kernel
theorem d_Md_message_63 : decode b_Md_message 63 = .ok (.invokestatic 162, 3) := by decide +kernel
theorem d_Md_message_66 : decode b_Md_message 66 = .ok (.ireturn, 1) := by decide +kernel
theorem d_Md_told_0 : decode b_Md_told 0 = .ok (.iload_n 2, 1) := by decide +kernel
theorem d_Md_told_1 : decode b_Md_told 1 = .ok (.bipush (16), 2) := by decide +kernel
theorem d_Md_told_3 : decode b_Md_told 3 = .ok (.ishr, 1) := by decide +kernel
theorem d_Md_told_4 : decode b_Md_told 4 = .ok (.istore_n 3, 1) := by decide +kernel
theorem d_Md_told_5 : decode b_Md_told 5 = .ok (.iload_n 2, 1) := by decide +kernel
theorem d_Md_told_6 : decode b_Md_told 6 = .ok (.bipush (13), 2) := by decide +kernel
theorem d_Md_told_8 : decode b_Md_told 8 = .ok (.ishr, 1) := by decide +kernel
theorem d_Md_told_9 : decode b_Md_told 9 = .ok (.bipush (7), 2) := by decide +kernel
theorem d_Md_told_11 : decode b_Md_told 11 = .ok (.iand, 1) := by decide +kernel
theorem d_Md_told_12 : decode b_Md_told 12 = .ok (.istore 4, 2) := by decide +kernel
theorem d_Md_told_14 : decode b_Md_told 14 = .ok (.iload_n 2, 1) := by decide +kernel
theorem d_Md_told_15 : decode b_Md_told 15 = .ok (.bipush (11), 2) := by decide +kernel
theorem d_Md_told_17 : decode b_Md_told 17 = .ok (.ishr, 1) := by decide +kernel
theorem d_Md_told_18 : decode b_Md_told 18 = .ok (.iconst (3), 1) := by decide +kernel
theorem d_Md_told_19 : decode b_Md_told 19 = .ok (.iand, 1) := by decide +kernel
theorem d_Md_told_20 : decode b_Md_told 20 = .ok (.istore 5, 2) := by decide +kernel
theorem d_Md_told_22 : decode b_Md_told 22 = .ok (.iload_n 2, 1) := by decide +kernel
theorem d_Md_told_23 : decode b_Md_told 23 = .ok (.bipush (9), 2) := by decide +kernel
theorem d_Md_told_25 : decode b_Md_told 25 = .ok (.ishr, 1) := by decide +kernel
theorem d_Md_told_26 : decode b_Md_told 26 = .ok (.iconst (3), 1) := by decide +kernel
theorem d_Md_told_27 : decode b_Md_told 27 = .ok (.iand, 1) := by decide +kernel
theorem d_Md_told_28 : decode b_Md_told 28 = .ok (.istore 6, 2) := by decide +kernel
theorem d_Md_told_30 : decode b_Md_told 30 = .ok (.iload_n 3, 1) := by decide +kernel
theorem d_Md_told_31 : decode b_Md_told 31 = .ok (.bipush (8), 2) := by decide +kernel
theorem d_Md_told_33 : decode b_Md_told 33 = .ok (.if_icmp .ne (23), 3) := by decide +kernel
theorem d_Md_told_36 : decode b_Md_told 36 = .ok (.iload 4, 2) := by decide +kernel
theorem d_Md_told_38 : decode b_Md_told 38 = .ok (.iload_n 1, 1) := by decide +kernel
theorem d_Md_told_39 : decode b_Md_told 39 = .ok (.if_icmp .ne (17), 3) := by decide +kernel
theorem d_Md_told_42 : decode b_Md_told 42 = .ok (.aload_n 0, 1) := by decide +kernel
theorem d_Md_told_43 : decode b_Md_told 43 = .ok (.getfield 54, 3) := by decide +kernel
theorem d_Md_told_46 : decode b_Md_told 46 = .ok (.iload_n 1, 1) := by decide +kernel
theorem d_Md_told_47 : decode b_Md_told 47 = .ok (.baload, 1) := by decide +kernel
theorem d_Md_told_48 : decode b_Md_told 48 = .ok (.ifCond .eq (8), 3) := by decide +kernel
theorem d_Md_told_51 : decode b_Md_told 51 = .ok (.aload_n 0, 1) := by decide +kernel
theorem d_Md_told_52 : decode b_Md_told 52 = .ok (.iload_n 1, 1) := by decide +kernel
theorem d_Md_told_53 : decode b_Md_told 53 = .ok (.invokevirtual 181, 3) := by decide +kernel
theorem d_Md_told_56 : decode b_Md_told 56 = .ok (.iload_n 3, 1) := by decide +kernel
theorem d_Md_told_57 : decode b_Md_told 57 = .ok (.bipush (9), 2) := by decide +kernel
theorem d_Md_told_59 : decode b_Md_told 59 = .ok (.if_icmp .ne (100), 3) := by decide +kernel
theorem d_Md_told_62 : decode b_Md_told 62 = .ok (.aload_n 0, 1) := by decide +kernel
theorem d_Md_told_63 : decode b_Md_told 63 = .ok (.getfield 36, 3) := by decide +kernel
theorem d_Md_told_66 : decode b_Md_told 66 = .ok (.iload_n 1, 1) := by decide +kernel
theorem d_Md_told_67 : decode b_Md_told 67 = .ok (.iaload, 1) := by decide +kernel
theorem d_Md_told_68 : decode b_Md_told 68 = .ok (.iload 5, 2) := by decide +kernel
theorem d_Md_told_70 : decode b_Md_told 70 = .ok (.ishr, 1) := by decide +kernel
theorem d_Md_told_71 : decode b_Md_told 71 = .ok (.iconst (1), 1) := by decide +kernel
theorem d_Md_told_72 : decode b_Md_told 72 = .ok (.iand, 1) := by decide +kernel
theorem d_Md_told_73 : decode b_Md_told 73 = .ok (.iconst (1), 1) := by decide +kernel
theorem d_Md_told_74 : decode b_Md_told 74 = .ok (.if_icmp .ne (85), 3) := by decide +kernel
theorem d_Md_told_77 : decode b_Md_told 77 = .ok (.iload 4, 2) := by decide +kernel
theorem d_Md_told_79 : decode b_Md_told 79 = .ok (.iload_n 1, 1) := by decide +kernel
theorem d_Md_told_80 : decode b_Md_told 80 = .ok (.if_icmp .ne (18), 3) := by decide +kernel
theorem d_Md_told_83 : decode b_Md_told 83 = .ok (.aload_n 0, 1) := by decide +kernel
theorem d_Md_told_84 : decode b_Md_told 84 = .ok (.getfield 67, 3) := by decide +kernel
theorem d_Md_told_87 : decode b_Md_told 87 = .ok (.iload_n 1, 1) := by decide +kernel
theorem d_Md_told_88 : decode b_Md_told 88 = .ok (.iaload, 1) := by decide +kernel
theorem d_Md_told_89 : decode b_Md_told 89 = .ok (.iload 5, 2) := by decide +kernel
theorem d_Md_told_91 : decode b_Md_told 91 = .ok (.if_icmp .ne (7), 3) := by decide +kernel
theorem d_Md_told_94 : decode b_Md_told 94 = .ok (.iconst (1), 1) := by decide +kernel
theorem d_Md_told_95 : decode b_Md_told 95 = .ok (.goto (4), 3) := by decide +kernel
theorem d_Md_told_98 : decode b_Md_told 98 = .ok (.iconst (0), 1) := by decide +kernel
theorem d_Md_told_99 : decode b_Md_told 99 = .ok (.istore 7, 2) := by decide +kernel
theorem d_Md_told_101 : decode b_Md_told 101 = .ok (.iload 7, 2) := by decide +kernel
theorem d_Md_told_103 : decode b_Md_told 103 = .ok (.ifCond .ne (24), 3) := by decide +kernel
theorem d_Md_told_106 : decode b_Md_told 106 = .ok (.aload_n 0, 1) := by decide +kernel
theorem d_Md_told_107 : decode b_Md_told 107 = .ok (.getfield 58, 3) := by decide +kernel
theorem d_Md_told_110 : decode b_Md_told 110 = .ok (.iload_n 1, 1) := by decide +kernel
theorem d_Md_told_111 : decode b_Md_told 111 = .ok (.iaload, 1) := by decide +kernel
theorem d_Md_told_112 : decode b_Md_told 112 = .ok (.iconst (1), 1) := by decide +kernel
theorem d_Md_told_113 : decode b_Md_told 113 = .ok (.if_icmp .ne (14), 3) := by decide +kernel
theorem d_Md_told_116 : decode b_Md_told 116 = .ok (.aload_n 0, 1) := by decide +kernel
theorem d_Md_told_117 : decode b_Md_told 117 = .ok (.getfield 64, 3) := by decide +kernel
theorem d_Md_told_120 : decode b_Md_told 120 = .ok (.iload_n 1, 1) := by decide +kernel
theorem d_Md_told_121 : decode b_Md_told 121 = .ok (.iaload, 1) := by decide +kernel
theorem d_Md_told_122 : decode b_Md_told 122 = .ok (.iload 5, 2) := by decide +kernel
theorem d_Md_told_124 : decode b_Md_told 124 = .ok (.if_icmp .ne (35), 3) := by decide +kernel
theorem d_Md_told_127 : decode b_Md_told 127 = .ok (.aload_n 0, 1) := by decide +kernel
theorem d_Md_told_128 : decode b_Md_told 128 = .ok (.getfield 58, 3) := by decide +kernel
theorem d_Md_told_131 : decode b_Md_told 131 = .ok (.iload_n 1, 1) := by decide +kernel
theorem d_Md_told_132 : decode b_Md_told 132 = .ok (.iload 7, 2) := by decide +kernel
theorem d_Md_told_134 : decode b_Md_told 134 = .ok (.ifCond .eq (7), 3) := by decide +kernel
theorem d_Md_told_137 : decode b_Md_told 137 = .ok (.iconst (1), 1) := by decide +kernel
theorem d_Md_told_138 : decode b_Md_told 138 = .ok (.goto (4), 3) := by decide +kernel
theorem d_Md_told_141 : decode b_Md_told 141 = .ok (.iconst (2), 1) := by decide +kernel
theorem d_Md_told_142 : decode b_Md_told 142 = .ok (.iastore, 1) := by decide +kernel
theorem d_Md_told_143 : decode b_Md_told 143 = .ok (.aload_n 0, 1) := by decide +kernel
theorem d_Md_told_144 : decode b_Md_told 144 = .ok (.getfield 61, 3) := by decide +kernel
theorem d_Md_told_147 : decode b_Md_told 147 = .ok (.iload_n 1, 1) := by decide +kernel
theorem d_Md_told_148 : decode b_Md_told 148 = .ok (.iload 6, 2) := by decide +kernel
theorem d_Md_told_150 : decode b_Md_told 150 = .ok (.iastore, 1) := by decide +kernel
theorem d_Md_told_151 : decode b_Md_told 151 = .ok (.aload_n 0, 1) := by decide +kernel
theorem d_Md_told_152 : decode b_Md_told 152 = .ok (.getfield 64, 3) := by decide +kernel
theorem d_Md_told_155 : decode b_Md_told 155 = .ok (.iload_n 1, 1) := by decide +kernel
theorem d_Md_told_156 : decode b_Md_told 156 = .ok (.iload 5, 2) := by decide +kernel
theorem d_Md_told_158 : decode b_Md_told 158 = .ok (.iastore, 1) := by decide +kernel
theorem d_Md_told_159 : decode b_Md_told 159 = .ok (.iload_n 3, 1) := by decide +kernel
theorem d_Md_told_160 : decode b_Md_told 160 = .ok (.bipush (10), 2) := by decide +kernel
theorem d_Md_told_162 : decode b_Md_told 162 = .ok (.if_icmp .ne (28), 3) := by decide +kernel
theorem d_Md_told_165 : decode b_Md_told 165 = .ok (.aload_n 0, 1) := by decide +kernel
theorem d_Md_told_166 : decode b_Md_told 166 = .ok (.getfield 58, 3) := by decide +kernel
theorem d_Md_told_169 : decode b_Md_told 169 = .ok (.iload_n 1, 1) := by decide +kernel
theorem d_Md_told_170 : decode b_Md_told 170 = .ok (.iaload, 1) := by decide +kernel
theorem d_Md_told_171 : decode b_Md_told 171 = .ok (.ifCond .le (19), 3) := by decide +kernel
theorem d_Md_told_174 : decode b_Md_told 174 = .ok (.aload_n 0, 1) := by decide +kernel
theorem d_Md_told_175 : decode b_Md_told 175 = .ok (.getfield 64, 3) := by decide +kernel
theorem d_Md_told_178 : decode b_Md_told 178 = .ok (.iload_n 1, 1) := by decide +kernel
theorem d_Md_told_179 : decode b_Md_told 179 = .ok (.iaload, 1) := by decide +kernel
theorem d_Md_told_180 : decode b_Md_told 180 = .ok (.iload 5, 2) := by decide +kernel
theorem d_Md_told_182 : decode b_Md_told 182 = .ok (.if_icmp .ne (8), 3) := by decide +kernel
theorem d_Md_told_185 : decode b_Md_told 185 = .ok (.aload_n 0, 1) := by decide +kernel
theorem d_Md_told_186 : decode b_Md_told 186 = .ok (.iload_n 1, 1) := by decide +kernel
theorem d_Md_told_187 : decode b_Md_told 187 = .ok (.invokevirtual 184, 3) := by decide +kernel
theorem d_Md_told_190 : decode b_Md_told 190 = .ok (.iload_n 3, 1) := by decide +kernel
theorem d_Md_told_191 : decode b_Md_told 191 = .ok (.bipush (11), 2) := by decide +kernel
theorem d_Md_told_193 : decode b_Md_told 193 = .ok (.if_icmp .ne (45), 3) := by decide +kernel
theorem d_Md_told_196 : decode b_Md_told 196 = .ok (.iload 4, 2) := by decide +kernel
theorem d_Md_told_198 : decode b_Md_told 198 = .ok (.iload_n 1, 1) := by decide +kernel
theorem d_Md_told_199 : decode b_Md_told 199 = .ok (.if_icmp .ne (39), 3) := by decide +kernel
theorem d_Md_told_202 : decode b_Md_told 202 = .ok (.aload_n 0, 1) := by decide +kernel
theorem d_Md_told_203 : decode b_Md_told 203 = .ok (.getfield 85, 3) := by decide +kernel
theorem d_Md_told_206 : decode b_Md_told 206 = .ok (.iload_n 1, 1) := by decide +kernel
theorem d_Md_told_207 : decode b_Md_told 207 = .ok (.aload_n 0, 1) := by decide +kernel
theorem d_Md_told_208 : decode b_Md_told 208 = .ok (.getfield 85, 3) := by decide +kernel
theorem d_Md_told_211 : decode b_Md_told 211 = .ok (.iload_n 1, 1) := by decide +kernel
theorem d_Md_told_212 : decode b_Md_told 212 = .ok (.iaload, 1) := by decide +kernel
theorem d_Md_told_213 : decode b_Md_told 213 = .ok (.iconst (1), 1) := by decide +kernel
theorem d_Md_told_214 : decode b_Md_told 214 = .ok (.iadd, 1) := by decide +kernel
theorem d_Md_told_215 : decode b_Md_told 215 = .ok (.iastore, 1) := by decide +kernel
theorem d_Md_told_216 : decode b_Md_told 216 = .ok (.aload_n 0, 1) := by decide +kernel
theorem d_Md_told_217 : decode b_Md_told 217 = .ok (.getfield 88, 3) := by decide +kernel
theorem d_Md_told_220 : decode b_Md_told 220 = .ok (.iload_n 1, 1) := by decide +kernel
theorem d_Md_told_221 : decode b_Md_told 221 = .ok (.bipush (16), 2) := by decide +kernel
theorem d_Md_told_223 : decode b_Md_told 223 = .ok (.iload_n 2, 1) := by decide +kernel
theorem d_Md_told_224 : decode b_Md_told 224 = .ok (.sipush (511), 3) := by decide +kernel
theorem d_Md_told_227 : decode b_Md_told 227 = .ok (.iand, 1) := by decide +kernel
theorem d_Md_told_228 : decode b_Md_told 228 = .ok (.imul, 1) := by decide +kernel
theorem d_Md_told_229 : decode b_Md_told 229 = .ok (.iconst (4), 1) := by decide +kernel
theorem d_Md_told_230 : decode b_Md_told 230 = .ok (.iload 5, 2) := by decide +kernel
theorem d_Md_told_232 : decode b_Md_told 232 = .ok (.imul, 1) := by decide +kernel
theorem d_Md_told_233 : decode b_Md_told 233 = .ok (.iadd, 1) := by decide +kernel
theorem d_Md_told_234 : decode b_Md_told 234 = .ok (.iload 6, 2) := by decide +kernel
theorem d_Md_told_236 : decode b_Md_told 236 = .ok (.iadd, 1) := by decide +kernel
theorem d_Md_told_237 : decode b_Md_told 237 = .ok (.iastore, 1) := by decide +kernel
theorem d_Md_told_238 : decode b_Md_told 238 = .ok (.return_, 1) := by decide +kernel
theorem d_Md_again_0 : decode b_Md_again 0 = .ok (.aload_n 0, 1) := by decide +kernel
theorem d_Md_again_1 : decode b_Md_again 1 = .ok (.getfield 48, 3) := by decide +kernel
theorem d_Md_again_4 : decode b_Md_again 4 = .ok (.iload_n 1, 1) := by decide +kernel
theorem d_Md_again_5 : decode b_Md_again 5 = .ok (.aload_n 0, 1) := by decide +kernel
theorem d_Md_again_6 : decode b_Md_again 6 = .ok (.getfield 48, 3) := by decide +kernel
theorem d_Md_again_9 : decode b_Md_again 9 = .ok (.iload_n 1, 1) := by decide +kernel
theorem d_Md_again_10 : decode b_Md_again 10 = .ok (.iaload, 1) := by decide +kernel
theorem d_Md_again_11 : decode b_Md_again 11 = .ok (.iconst (1), 1) := by decide +kernel
theorem d_Md_again_12 : decode b_Md_again 12 = .ok (.iadd, 1) := by decide +kernel
theorem d_Md_again_13 : decode b_Md_again 13 = .ok (.iastore, 1) := by decide +kernel
theorem d_Md_again_14 : decode b_Md_again 14 = .ok (.aload_n 0, 1) := by decide +kernel
theorem d_Md_again_15 : decode b_Md_again 15 = .ok (.getfield 48, 3) := by decide +kernel
theorem d_Md_again_18 : decode b_Md_again 18 = .ok (.iload_n 1, 1) := by decide +kernel
theorem d_Md_again_19 : decode b_Md_again 19 = .ok (.iaload, 1) := by decide +kernel
theorem d_Md_again_20 : decode b_Md_again 20 = .ok (.iconst (5), 1) := by decide +kernel
theorem d_Md_again_21 : decode b_Md_again 21 = .ok (.if_icmp .ne (11), 3) := by decide +kernel
theorem d_Md_again_24 : decode b_Md_again 24 = .ok (.aload_n 0, 1) := by decide +kernel
theorem d_Md_again_25 : decode b_Md_again 25 = .ok (.iload_n 1, 1) := by decide +kernel
theorem d_Md_again_26 : decode b_Md_again 26 = .ok (.invokevirtual 181, 3) := by decide +kernel
theorem d_Md_again_29 : decode b_Md_again 29 = .ok (.goto (93), 3) := by decide +kernel
theorem d_Md_again_32 : decode b_Md_again 32 = .ok (.aload_n 0, 1) := by decide +kernel
theorem d_Md_again_33 : decode b_Md_again 33 = .ok (.getfield 76, 3) := by decide +kernel
theorem d_Md_again_36 : decode b_Md_again 36 = .ok (.iload_n 1, 1) := by decide +kernel
theorem d_Md_again_37 : decode b_Md_again 37 = .ok (.iaload, 1) := by decide +kernel
theorem d_Md_again_38 : decode b_Md_again 38 = .ok (.ifCond .ne (13), 3) := by decide +kernel
theorem d_Md_again_41 : decode b_Md_again 41 = .ok (.aload_n 0, 1) := by decide +kernel
theorem d_Md_again_42 : decode b_Md_again 42 = .ok (.getfield 51, 3) := by decide +kernel
theorem d_Md_again_45 : decode b_Md_again 45 = .ok (.iload_n 1, 1) := by decide +kernel
theorem d_Md_again_46 : decode b_Md_again 46 = .ok (.iconst (1), 1) := by decide +kernel
theorem d_Md_again_47 : decode b_Md_again 47 = .ok (.iastore, 1) := by decide +kernel
theorem d_Md_again_48 : decode b_Md_again 48 = .ok (.goto (74), 3) := by decide +kernel
theorem d_Md_again_51 : decode b_Md_again 51 = .ok (.aload_n 0, 1) := by decide +kernel
theorem d_Md_again_52 : decode b_Md_again 52 = .ok (.getfield 51, 3) := by decide +kernel
theorem d_Md_again_55 : decode b_Md_again 55 = .ok (.iload_n 1, 1) := by decide +kernel
theorem d_Md_again_56 : decode b_Md_again 56 = .ok (.aload_n 0, 1) := by decide +kernel
theorem d_Md_again_57 : decode b_Md_again 57 = .ok (.getfield 73, 3) := by decide +kernel
theorem d_Md_again_60 : decode b_Md_again 60 = .ok (.bipush (8), 2) := by decide +kernel
theorem d_Md_again_62 : decode b_Md_again 62 = .ok (.iload_n 1, 1) := by decide +kernel
theorem d_Md_again_63 : decode b_Md_again 63 = .ok (.imul, 1) := by decide +kernel
theorem d_Md_again_64 : decode b_Md_again 64 = .ok (.iaload, 1) := by decide +kernel
theorem d_Md_again_65 : decode b_Md_again 65 = .ok (.iastore, 1) := by decide +kernel
theorem d_Md_again_66 : decode b_Md_again 66 = .ok (.aload_n 0, 1) := by decide +kernel
theorem d_Md_again_67 : decode b_Md_again 67 = .ok (.getfield 76, 3) := by decide +kernel
theorem d_Md_again_70 : decode b_Md_again 70 = .ok (.iload_n 1, 1) := by decide +kernel
theorem d_Md_again_71 : decode b_Md_again 71 = .ok (.aload_n 0, 1) := by decide +kernel
theorem d_Md_again_72 : decode b_Md_again 72 = .ok (.getfield 76, 3) := by decide +kernel
theorem d_Md_again_75 : decode b_Md_again 75 = .ok (.iload_n 1, 1) := by decide +kernel
theorem d_Md_again_76 : decode b_Md_again 76 = .ok (.iaload, 1) := by decide +kernel
theorem d_Md_again_77 : decode b_Md_again 77 = .ok (.iconst (1), 1) := by decide +kernel
theorem d_Md_again_78 : decode b_Md_again 78 = .ok (.isub, 1) := by decide +kernel
theorem d_Md_again_79 : decode b_Md_again 79 = .ok (.iastore, 1) := by decide +kernel
theorem d_Md_again_80 : decode b_Md_again 80 = .ok (.iconst (0), 1) := by decide +kernel
theorem d_Md_again_81 : decode b_Md_again 81 = .ok (.istore_n 2, 1) := by decide +kernel
theorem d_Md_again_82 : decode b_Md_again 82 = .ok (.iload_n 2, 1) := by decide +kernel
theorem d_Md_again_83 : decode b_Md_again 83 = .ok (.aload_n 0, 1) := by decide +kernel
theorem d_Md_again_84 : decode b_Md_again 84 = .ok (.getfield 76, 3) := by decide +kernel
theorem d_Md_again_87 : decode b_Md_again 87 = .ok (.iload_n 1, 1) := by decide +kernel
theorem d_Md_again_88 : decode b_Md_again 88 = .ok (.iaload, 1) := by decide +kernel
theorem d_Md_again_89 : decode b_Md_again 89 = .ok (.if_icmp .ge (33), 3) := by decide +kernel
theorem d_Md_again_92 : decode b_Md_again 92 = .ok (.aload_n 0, 1) := by decide +kernel
theorem d_Md_again_93 : decode b_Md_again 93 = .ok (.getfield 73, 3) := by decide +kernel
theorem d_Md_again_96 : decode b_Md_again 96 = .ok (.bipush (8), 2) := by decide +kernel
theorem d_Md_again_98 : decode b_Md_again 98 = .ok (.iload_n 1, 1) := by decide +kernel
theorem d_Md_again_99 : decode b_Md_again 99 = .ok (.imul, 1) := by decide +kernel
theorem d_Md_again_100 : decode b_Md_again 100 = .ok (.iload_n 2, 1) := by decide +kernel
theorem d_Md_again_101 : decode b_Md_again 101 = .ok (.iadd, 1) := by decide +kernel
theorem d_Md_again_102 : decode b_Md_again 102 = .ok (.aload_n 0, 1) := by decide +kernel
theorem d_Md_again_103 : decode b_Md_again 103 = .ok (.getfield 73, 3) := by decide +kernel
theorem d_Md_again_106 : decode b_Md_again 106 = .ok (.bipush (8), 2) := by decide +kernel
theorem d_Md_again_108 : decode b_Md_again 108 = .ok (.iload_n 1, 1) := by decide +kernel
theorem d_Md_again_109 : decode b_Md_again 109 = .ok (.imul, 1) := by decide +kernel
theorem d_Md_again_110 : decode b_Md_again 110 = .ok (.iload_n 2, 1) := by decide +kernel
theorem d_Md_again_111 : decode b_Md_again 111 = .ok (.iadd, 1) := by decide +kernel
theorem d_Md_again_112 : decode b_Md_again 112 = .ok (.iconst (1), 1) := by decide +kernel
theorem d_Md_again_113 : decode b_Md_again 113 = .ok (.iadd, 1) := by decide +kernel
theorem d_Md_again_114 : decode b_Md_again 114 = .ok (.iaload, 1) := by decide +kernel
theorem d_Md_again_115 : decode b_Md_again 115 = .ok (.iastore, 1) := by decide +kernel
theorem d_Md_again_116 : decode b_Md_again 116 = .ok (.iinc 2 (1), 3) := by decide +kernel
theorem d_Md_again_119 : decode b_Md_again 119 = .ok (.goto (-37), 3) := by decide +kernel
theorem d_Md_again_122 : decode b_Md_again 122 = .ok (.return_, 1) := by decide +kernel
def p_Md_toSay (p1 : Int32) (p2 : Int32) (post : SI → SJ → Prop) (I : SI) (J : SJ) : Prop :=
  ∃ j1, p1 = nI j1 ∧ j1 < 3 ∧ (((8 : Int32) ≤ (I (33) j1) → post I J) ∧ (¬ (8 : Int32) ≤ (I (33) j1) → ∃ j2, p1 = nI j2 ∧ j2 < 3 ∧ ∃ j3, ((9 : Int32) * p1) + (I (33) j2) = nI j3 ∧ j3 < 27 ∧ ∀ I4, I4 = xu I (32) j3 p2 → ∃ j5, p1 = nI j5 ∧ j5 < 3 ∧ ∃ j6, p1 = nI j6 ∧ j6 < 3 ∧ ∀ I7, I7 = xu I4 (33) j6 ((I4 (33) j5) + (1 : Int32)) → post I7 J))
abbrev rm_Md_toSay : Room := { frames := 0, cells := 0, slots := 0, locals := 0 }
def p_Md_sayFirst_L3 (p1 : Int32) (p2 : Int32) (post : SI → SJ → Prop) (k37 : SI → SJ → Prop) : Nat → Int32 → SI → SJ → Prop
  | 0, _, _, _ => False
  | n + 1, v3, I, J => ((v3 ≤ (0) → k37 I J) ∧ (¬ v3 ≤ (0) → ∃ j2, (((9 : Int32) * p1) + v3) - (1 : Int32) = nI j2 ∧ j2 < 27 ∧ ∃ j3, ((9 : Int32) * p1) + v3 = nI j3 ∧ j3 < 27 ∧ ∀ I4, I4 = xu I (32) j3 (I (32) j2) → ∀ x5, x5 = v3 + (-1 : Int32) → p_Md_sayFirst_L3 p1 p2 post k37 n x5 I4 J))
def p_Md_sayFirst (p1 : Int32) (p2 : Int32) (post : SI → SJ → Prop) (I : SI) (J : SJ) : Prop :=
  ∀ x1, x1 = (8 : Int32) → ∃ n16, p_Md_sayFirst_L3 p1 p2 post (fun I7 J8 => ∃ j9, (9 : Int32) * p1 = nI j9 ∧ j9 < 27 ∧ ∀ I10, I10 = xu I7 (32) j9 p2 → ∃ j11, p1 = nI j11 ∧ j11 < 3 ∧ (((8 : Int32) ≤ (I10 (33) j11) → post I10 J8) ∧ (¬ (8 : Int32) ≤ (I10 (33) j11) → ∃ j12, p1 = nI j12 ∧ j12 < 3 ∧ ∃ j13, p1 = nI j13 ∧ j13 < 3 ∧ ∀ I14, I14 = xu I10 (33) j13 ((I10 (33) j12) + (1 : Int32)) → post I14 J8))) n16 x1 I J
abbrev rm_Md_sayFirst : Room := { frames := 0, cells := 0, slots := 0, locals := 0 }
def p_Md_inMembersCells_49 (p1 : Int32) (p2 : Int32) (post : SI → SJ → Prop) (k13 : Int32 → Int32 → Int32 → SI → SJ → Prop) (v3 : Int32) (v4 : Int32) (v5 : Int32) (I : SI) (J : SJ) : Prop :=
  ∀ x5, x5 = v5 + (1 : Int32) → k13 v3 v4 x5 I J
def p_Md_inMembersCells_L13 (p1 : Int32) (p2 : Int32) (post : SI → SJ → Prop) (k55 : Int32 → Int32 → SI → SJ → Prop) : Nat → Int32 → Int32 → Int32 → SI → SJ → Prop
  | 0, _, _, _, _, _ => False
  | n + 1, v3, v4, v5, I, J => (((8 : Int32) ≤ v5 → k55 v3 v4 I J) ∧ (¬ (8 : Int32) ≤ v5 → ∃ j4, v5 = nI j4 ∧ j4 < 8 ∧ ((¬ (I (24) j4) = v3 → p_Md_inMembersCells_49 p1 p2 post (p_Md_inMembersCells_L13 p1 p2 post k55 n) v3 v4 v5 I J) ∧ ((I (24) j4) = v3 → ∃ j6, v5 = nI j6 ∧ j6 < 8 ∧ ((¬ ((xsr (I (6) j6) p1) &&& (1 : Int32)) = (1 : Int32) → p_Md_inMembersCells_49 p1 p2 post (p_Md_inMembersCells_L13 p1 p2 post k55 n) v3 v4 v5 I J) ∧ (((xsr (I (6) j6) p1) &&& (1 : Int32)) = (1 : Int32) → ∀ x7, x7 = (1 : Int32) → p_Md_inMembersCells_49 p1 p2 post (p_Md_inMembersCells_L13 p1 p2 post k55 n) v3 x7 v5 I J))))))
def p_Md_inMembersCells_66 (p1 : Int32) (p2 : Int32) (post : SI → SJ → Prop) (k2 : Int32 → SI → SJ → Prop) (v3 : Int32) (I : SI) (J : SJ) : Prop :=
  ∀ x15, x15 = v3 + (1 : Int32) → k2 x15 I J
def p_Md_inMembersCells_L2 (p1 : Int32) (p2 : Int32) (post : SI → SJ → Prop) : Nat → Int32 → SI → SJ → Prop
  | 0, _, _, _ => False
  | n + 1, v3, I, J => (((3 : Int32) ≤ v3 → post I J) ∧ (¬ (3 : Int32) ≤ v3 → ∀ x2, x2 = (0 : Int32) → ∀ x3, x3 = (0 : Int32) → ∃ n19, p_Md_inMembersCells_L13 p1 p2 post (fun z11 z12 I13 J14 => ((z12 = (0) → p_Md_inMembersCells_66 p1 p2 post (p_Md_inMembersCells_L2 p1 p2 post n) z11 I13 J14) ∧ (¬ z12 = (0) → p_Md_toSay z11 p2 (fun I16 J17 => p_Md_inMembersCells_66 p1 p2 post (p_Md_inMembersCells_L2 p1 p2 post n) z11 I16 J17) I13 J14))) n19 v3 x2 x3 I J))
def p_Md_inMembersCells (p1 : Int32) (p2 : Int32) (post : SI → SJ → Prop) (I : SI) (J : SJ) : Prop :=
  ∀ x1, x1 = (0 : Int32) → ∃ n21, p_Md_inMembersCells_L2 p1 p2 post n21 x1 I J
abbrev rm_Md_inMembersCells : Room := { frames := 1, cells := 0, slots := 0, locals := 22 }
def p_Md_freeChannel_28 (post : Int32 → SI → SJ → Prop) (k11 : Int32 → Int32 → Int32 → SI → SJ → Prop) (v1 : Int32) (v2 : Int32) (v3 : Int32) (I : SI) (J : SJ) : Prop :=
  ∀ x5, x5 = v3 + (1 : Int32) → k11 v1 v2 x5 I J
def p_Md_freeChannel_L11 (post : Int32 → SI → SJ → Prop) (k34 : Int32 → Int32 → SI → SJ → Prop) : Nat → Int32 → Int32 → Int32 → SI → SJ → Prop
  | 0, _, _, _, _, _ => False
  | n + 1, v1, v2, v3, I, J => (((4 : Int32) ≤ v3 → k34 v1 v2 I J) ∧ (¬ (4 : Int32) ≤ v3 → ∃ j4, v3 = nI j4 ∧ j4 < 4 ∧ ((¬ (I (27) j4) = v1 → p_Md_freeChannel_28 post (p_Md_freeChannel_L11 post k34 n) v1 v2 v3 I J) ∧ ((I (27) j4) = v1 → ∀ x6, x6 = (1 : Int32) → p_Md_freeChannel_28 post (p_Md_freeChannel_L11 post k34 n) v1 x6 v3 I J))))
def p_Md_freeChannel_L2 (post : Int32 → SI → SJ → Prop) : Nat → Int32 → SI → SJ → Prop
  | 0, _, _, _ => False
  | n + 1, v1, I, J => (((4 : Int32) ≤ v1 → post (0 : Int32) I J) ∧ (¬ (4 : Int32) ≤ v1 → ∀ x2, x2 = (0 : Int32) → ∀ x3, x3 = (0 : Int32) → ∃ n15, p_Md_freeChannel_L11 post (fun z9 z10 I11 J12 => ((¬ z10 = (0) → ∀ x13, x13 = z9 + (1 : Int32) → p_Md_freeChannel_L2 post n x13 I11 J12) ∧ (z10 = (0) → post z9 I11 J12))) n15 v1 x2 x3 I J))
def p_Md_freeChannel (post : Int32 → SI → SJ → Prop) (I : SI) (J : SJ) : Prop :=
  ∀ x1, x1 = (1 : Int32) → ∃ n17, p_Md_freeChannel_L2 post n17 x1 I J
abbrev rm_Md_freeChannel : Room := { frames := 0, cells := 0, slots := 0, locals := 0 }
def p_Md_serve_86 (p1 : Int32) (post : SI → SJ → Prop) (k42 : Int32 → Int32 → Int32 → SI → SJ → Prop) (v2 : Int32) (v3 : Int32) (v4 : Int32) (I : SI) (J : SJ) : Prop :=
  ∀ x11, x11 = v4 + (1 : Int32) → k42 v2 v3 x11 I J
def p_Md_serve_L42 (p1 : Int32) (post : SI → SJ → Prop) (k92 : Int32 → Int32 → SI → SJ → Prop) : Nat → Int32 → Int32 → Int32 → SI → SJ → Prop
  | 0, _, _, _, _, _ => False
  | n + 1, v2, v3, v4, I, J => ∃ j8, p1 = nI j8 ∧ j8 < 4 ∧ (((I (31) j8) ≤ v4 → k92 v2 v3 I J) ∧ (¬ (I (31) j8) ≤ v4 → ∃ j9, ((6 : Int32) * p1) + v4 = nI j9 ∧ j9 < 24 ∧ ∃ j10, ((6 : Int32) * p1) + v3 = nI j10 ∧ j10 < 24 ∧ ((((I (30) j9) &&& (3 : Int32)) ≤ ((I (30) j10) &&& (3 : Int32)) → p_Md_serve_86 p1 post (p_Md_serve_L42 p1 post k92 n) v2 v3 v4 I J) ∧ (¬ ((I (30) j9) &&& (3 : Int32)) ≤ ((I (30) j10) &&& (3 : Int32)) → p_Md_serve_86 p1 post (p_Md_serve_L42 p1 post k92 n) v2 v4 v4 I J))))
def p_Md_serve_L147 (p1 : Int32) (post : SI → SJ → Prop) : Nat → Int32 → Int32 → SI → SJ → Prop
  | 0, _, _, _, _ => False
  | n + 1, v2, v4, I, J => ∃ j28, p1 = nI j28 ∧ j28 < 4 ∧ (((I (31) j28) ≤ v4 → ∃ j29, p1 = nI j29 ∧ j29 < 4 ∧ p_Md_control (9 : Int32) (I (28) j29) p1 v2 (0 : Int32) (fun r32 I30 J31 => p_Md_inMembersCells p1 r32 (fun I33 J34 => post I33 J34) I30 J31) I J) ∧ (¬ (I (31) j28) ≤ v4 → ∃ j35, (((6 : Int32) * p1) + v4) + (1 : Int32) = nI j35 ∧ j35 < 24 ∧ ∃ j36, ((6 : Int32) * p1) + v4 = nI j36 ∧ j36 < 24 ∧ ∀ I37, I37 = xu I (30) j36 (I (30) j35) → ∀ x38, x38 = v4 + (1 : Int32) → p_Md_serve_L147 p1 post n v2 x38 I37 J))
def p_Md_serve_22 (p1 : Int32) (post : SI → SJ → Prop) (s0 : Int32) (I : SI) (J : SJ) : Prop :=
  ∃ j5, p1 = nI j5 ∧ j5 < 4 ∧ (((I (31) j5) = (0) → post I J) ∧ (¬ (I (31) j5) = (0) → ((¬ s0 = (0) → ∀ x6, x6 = (0 : Int32) → ∀ x7, x7 = (1 : Int32) → ∃ n41, p_Md_serve_L42 p1 post (fun z14 z15 I16 J17 => ∃ j18, p1 = nI j18 ∧ j18 < 4 ∧ ∀ I19, I19 = xu I16 (27) j18 z14 → ∃ j20, ((6 : Int32) * p1) + z15 = nI j20 ∧ j20 < 24 ∧ ∃ j21, p1 = nI j21 ∧ j21 < 4 ∧ ∀ I22, I22 = xu I19 (28) j21 (xsr (I19 (30) j20) (2 : Int32)) → ∃ j23, p1 = nI j23 ∧ j23 < 4 ∧ ∀ I24, I24 = xu I22 (29) j23 ((I22 0 36) / (4 : Int32)) → ∃ j25, p1 = nI j25 ∧ j25 < 4 ∧ ∃ j26, p1 = nI j26 ∧ j26 < 4 ∧ ∀ I27, I27 = xu I24 (31) j26 ((I24 (31) j25) - (1 : Int32)) → ∃ n40, p_Md_serve_L147 p1 post n40 z14 z15 I27 J17) n41 s0 x6 x7 I J) ∧ (s0 = (0) → post I J))))
def p_Md_serve (p1 : Int32) (post : SI → SJ → Prop) (I : SI) (J : SJ) : Prop :=
  ∃ j1, p1 = nI j1 ∧ j1 < 4 ∧ (((I (27) j1) ≤ (0) → p_Md_freeChannel (fun r4 I2 J3 => p_Md_serve_22 p1 post r4 I2 J3) I J) ∧ (¬ (I (27) j1) ≤ (0) → ∃ j44, p1 = nI j44 ∧ j44 < 4 ∧ p_Md_serve_22 p1 post (I (27) j44) I J))
abbrev rm_Md_serve : Room := { frames := 2, cells := 0, slots := 0, locals := 47 }
def p_Md_releaseCall_64 (p1 : Int32) (post : SI → SJ → Prop) (k45 : Int32 → SI → SJ → Prop) (v3 : Int32) (I : SI) (J : SJ) : Prop :=
  ∀ x13, x13 = v3 + (1 : Int32) → k45 x13 I J
def p_Md_releaseCall_L45 (p1 : Int32) (post : SI → SJ → Prop) : Nat → Int32 → SI → SJ → Prop
  | 0, _, _, _ => False
  | n + 1, v3, I, J => (((4 : Int32) ≤ v3 → post I J) ∧ (¬ (4 : Int32) ≤ v3 → ∃ j12, v3 = nI j12 ∧ j12 < 4 ∧ ((¬ (I (27) j12) = (0) → p_Md_releaseCall_64 p1 post (p_Md_releaseCall_L45 p1 post n) v3 I J) ∧ ((I (27) j12) = (0) → p_Md_serve v3 (fun I14 J15 => p_Md_releaseCall_64 p1 post (p_Md_releaseCall_L45 p1 post n) v3 I14 J15) I J))))
def p_Md_releaseCall (p1 : Int32) (post : SI → SJ → Prop) (I : SI) (J : SJ) : Prop :=
  ∃ j1, p1 = nI j1 ∧ j1 < 4 ∧ (((I (31) j1) ≤ (0) → ∃ j2, p1 = nI j2 ∧ j2 < 4 ∧ ∀ x3, x3 = I (27) j2 → ∃ j4, p1 = nI j4 ∧ j4 < 4 ∧ ∀ I5, I5 = xu I (27) j4 (0 : Int32) → p_Md_control (10 : Int32) (0 : Int32) p1 x3 (0 : Int32) (fun r8 I6 J7 => p_Md_inMembersCells p1 r8 (fun I9 J10 => ∀ x11, x11 = (0 : Int32) → ∃ n18, p_Md_releaseCall_L45 p1 post n18 x11 I9 J10) I6 J7) I5 J) ∧ (¬ (I (31) j1) ≤ (0) → p_Md_serve p1 (fun I19 J20 => post I19 J20) I J))
abbrev rm_Md_releaseCall : Room := { frames := 3, cells := 0, slots := 0, locals := 71 }
def p_Md_requested_75 (p1 : Int32) (p2 : Int32) (p3 : Int32) (post : SI → SJ → Prop) (k43 : Int32 → Int32 → SI → SJ → Prop) (v4 : Int32) (v5 : Int32) (I : SI) (J : SJ) : Prop :=
  ∀ x6, x6 = v5 + (1 : Int32) → k43 v4 x6 I J
def p_Md_requested_L43 (p1 : Int32) (p2 : Int32) (p3 : Int32) (post : SI → SJ → Prop) (k81 : Int32 → SI → SJ → Prop) : Nat → Int32 → Int32 → SI → SJ → Prop
  | 0, _, _, _, _ => False
  | n + 1, v4, v5, I, J => ∃ j4, p2 = nI j4 ∧ j4 < 4 ∧ (((I (31) j4) ≤ v5 → k81 v4 I J) ∧ (¬ (I (31) j4) ≤ v5 → ∃ j5, ((6 : Int32) * p2) + v5 = nI j5 ∧ j5 < 24 ∧ ((¬ (xsr (I (30) j5) (2 : Int32)) = p1 → p_Md_requested_75 p1 p2 p3 post (p_Md_requested_L43 p1 p2 p3 post k81 n) v4 v5 I J) ∧ ((xsr (I (30) j5) (2 : Int32)) = p1 → ∀ x7, x7 = (1 : Int32) → p_Md_requested_75 p1 p2 p3 post (p_Md_requested_L43 p1 p2 p3 post k81 n) x7 v5 I J))))
def p_Md_requested_132 (p1 : Int32) (p2 : Int32) (p3 : Int32) (post : SI → SJ → Prop) (I : SI) (J : SJ) : Prop :=
  ∃ j13, p2 = nI j13 ∧ j13 < 4 ∧ ((¬ (I (27) j13) = (0) → post I J) ∧ ((I (27) j13) = (0) → p_Md_serve p2 (fun I14 J15 => post I14 J15) I J))
def p_Md_requested_38 (p1 : Int32) (p2 : Int32) (p3 : Int32) (post : SI → SJ → Prop) (s0 : Int32) (I : SI) (J : SJ) : Prop :=
  ∀ x3, x3 = (0 : Int32) → ∃ n26, p_Md_requested_L43 p1 p2 p3 post (fun z10 I11 J12 => ((¬ z10 = (0) → p_Md_requested_132 p1 p2 p3 post I11 J12) ∧ (z10 = (0) → ∃ j17, p2 = nI j17 ∧ j17 < 4 ∧ (((6 : Int32) ≤ (I11 (31) j17) → p_Md_requested_132 p1 p2 p3 post I11 J12) ∧ (¬ (6 : Int32) ≤ (I11 (31) j17) → ∃ j18, p2 = nI j18 ∧ j18 < 4 ∧ ∃ j19, ((6 : Int32) * p2) + (I11 (31) j18) = nI j19 ∧ j19 < 24 ∧ ∀ I20, I20 = xu I11 (30) j19 (((4 : Int32) * p1) + p3) → ∃ j21, p2 = nI j21 ∧ j21 < 4 ∧ ∃ j22, p2 = nI j22 ∧ j22 < 4 ∧ ∀ I23, I23 = xu I20 (31) j22 ((I20 (31) j21) + (1 : Int32)) → p_Md_requested_132 p1 p2 p3 post I23 J12))))) n26 s0 x3 I J
def p_Md_requested_37 (p1 : Int32) (p2 : Int32) (p3 : Int32) (post : SI → SJ → Prop) (I : SI) (J : SJ) : Prop :=
  p_Md_requested_38 p1 p2 p3 post (0 : Int32) I J
def p_Md_requested (p1 : Int32) (p2 : Int32) (p3 : Int32) (post : SI → SJ → Prop) (I : SI) (J : SJ) : Prop :=
  ∃ j1, p1 = nI j1 ∧ j1 < 8 ∧ ((¬ ((xsr (I (6) j1) p2) &&& (1 : Int32)) = (0) → ∃ j2, p2 = nI j2 ∧ j2 < 4 ∧ (((I (27) j2) ≤ (0) → p_Md_requested_37 p1 p2 p3 post I J) ∧ (¬ (I (27) j2) ≤ (0) → ∃ j27, p2 = nI j27 ∧ j27 < 4 ∧ ((¬ (I (28) j27) = p1 → p_Md_requested_37 p1 p2 p3 post I J) ∧ ((I (28) j27) = p1 → p_Md_requested_38 p1 p2 p3 post (1 : Int32) I J))))) ∧ (((xsr (I (6) j1) p2) &&& (1 : Int32)) = (0) → post I J))
abbrev rm_Md_requested : Room := { frames := 3, cells := 0, slots := 0, locals := 71 }
def p_Md_switched (p1 : Int32) (p2 : Int32) (post : SI → SJ → Prop) (I : SI) (J : SJ) : Prop :=
  ∀ x1, x1 = xsr p2 (16 : Int32) → ∀ x2, x2 = (xsr p2 (13 : Int32)) &&& (7 : Int32) → ∀ x3, x3 = (xsr p2 (11 : Int32)) &&& (3 : Int32) → ∀ x4, x4 = (xsr p2 (9 : Int32)) &&& (3 : Int32) → ∀ x5, x5 = p2 &&& (511 : Int32) → ((¬ x1 = (1 : Int32) → ∃ j6, x2 = nI j6 ∧ j6 < 8 ∧ ((¬ (I (24) j6) = p1 → post I J) ∧ ((I (24) j6) = p1 → ∀ x7, x7 = ((4 : Int32) * x3) + x4 → ((¬ x1 = (2 : Int32) → (((8 : Int32) ≤ x7 → post I J) ∧ (¬ (8 : Int32) ≤ x7 → ∃ j8, x7 = nI j8 ∧ j8 < 8 ∧ (((I (24) j8) < (0) → post I J) ∧ (¬ (I (24) j8) < (0) → ∃ j9, x7 = nI j9 ∧ j9 < 8 ∧ p_Md_control (11 : Int32) x7 (xsr x2 (2 : Int32)) (x2 &&& (3 : Int32)) x5 (fun r12 I10 J11 => p_Md_toSay (I (24) j9) r12 (fun I13 J14 => post I13 J14) I10 J11) I J))))) ∧ (x1 = (2 : Int32) → p_Md_requested x2 x3 x4 (fun I17 J18 => post I17 J18) I J))))) ∧ (x1 = (1 : Int32) → ∃ j21, x2 = nI j21 ∧ j21 < 8 ∧ p_Md_mix (I (5) j21) ((I 0 36) / (4 : Int32)) (fun r24 I22 J23 => ((¬ (r24 &&& (511 : Int32)) = x5 → post I22 J23) ∧ ((r24 &&& (511 : Int32)) = x5 → ∃ j25, x2 = nI j25 ∧ j25 < 8 ∧ ∀ I26, I26 = xu I22 (24) j25 p1 → post I26 J23))) I J))
abbrev rm_Md_switched : Room := { frames := 4, cells := 0, slots := 0, locals := 96 }
def p_Md_noMessage (p1 : Int32) (post : SI → SJ → Prop) (I : SI) (J : SJ) : Prop :=
  ∃ j1, p1 = nI j1 ∧ j1 < 8 ∧ ∀ I2, I2 = xu I (7) j1 (0 : Int32) → ∃ j3, p1 = nI j3 ∧ j3 < 8 ∧ ∀ I4, I4 = xu I2 (10) j3 (0 : Int32) → ∃ j5, p1 = nI j5 ∧ j5 < 8 ∧ ∀ I6, I6 = xu I4 (11) j5 (0 : Int32) → post I6 J
abbrev rm_Md_noMessage : Room := { frames := 0, cells := 0, slots := 0, locals := 0 }
def p_Md_idle (p1 : Int32) (post : SI → SJ → Prop) (I : SI) (J : SJ) : Prop :=
  ∃ j1, p1 = nI j1 ∧ j1 < 8 ∧ ∀ I2, I2 = xu I (13) j1 (0 : Int32) → post I2 J
abbrev rm_Md_idle : Room := { frames := 0, cells := 0, slots := 0, locals := 0 }
def p_Md_message (p1 : Int32) (post : Int32 → SI → SJ → Prop) (I : SI) (J : SJ) : Prop :=
  ∃ j1, p1 = nI j1 ∧ j1 < 8 ∧ ((¬ (I (7) j1) = (1 : Int32) → ∃ j2, p1 = nI j2 ∧ j2 < 8 ∧ ∀ x3, x3 = I (9) j2 → ∃ j4, p1 = nI j4 ∧ j4 < 8 ∧ ∃ j5, p1 = nI j5 ∧ j5 < 8 ∧ ∃ j6, p1 = nI j6 ∧ j6 < 8 ∧ p_Md_control (I (7) j4) p1 (xsr (I (8) j5) (2 : Int32)) ((I (8) j6) &&& (3 : Int32)) x3 (fun r9 I7 J8 => post r9 I7 J8) I J) ∧ ((I (7) j1) = (1 : Int32) → ∃ j10, p1 = nI j10 ∧ j10 < 8 ∧ p_Md_mix (I (4) j10) ((I 0 36) / (4 : Int32)) (fun r13 I11 J12 => ∀ x14, x14 = r13 &&& (511 : Int32) → ∃ j15, p1 = nI j15 ∧ j15 < 8 ∧ ∃ j16, p1 = nI j16 ∧ j16 < 8 ∧ ∃ j17, p1 = nI j17 ∧ j17 < 8 ∧ p_Md_control (I11 (7) j15) p1 (xsr (I11 (8) j16) (2 : Int32)) ((I11 (8) j17) &&& (3 : Int32)) x14 (fun r20 I18 J19 => post r20 I18 J19) I11 J12) I J))
abbrev rm_Md_message : Room := { frames := 1, cells := 0, slots := 0, locals := 24 }
def p_Md_told_190 (p1 : Int32) (p2 : Int32) (post : SI → SJ → Prop) (v3 : Int32) (v4 : Int32) (v5 : Int32) (v6 : Int32) (I : SI) (J : SJ) : Prop :=
  ((¬ v3 = (11 : Int32) → post I J) ∧ (v3 = (11 : Int32) → ((¬ v4 = p1 → post I J) ∧ (v4 = p1 → ∃ j5, p1 = nI j5 ∧ j5 < 8 ∧ ∃ j6, p1 = nI j6 ∧ j6 < 8 ∧ ∀ I7, I7 = xu I (22) j6 ((I (22) j5) + (1 : Int32)) → ∃ j8, p1 = nI j8 ∧ j8 < 8 ∧ ∀ I9, I9 = xu I7 (23) j8 ((((16 : Int32) * (p2 &&& (511 : Int32))) + ((4 : Int32) * v5)) + v6) → post I9 J))))
def p_Md_told_159 (p1 : Int32) (p2 : Int32) (post : SI → SJ → Prop) (v3 : Int32) (v4 : Int32) (v5 : Int32) (v6 : Int32) (I : SI) (J : SJ) : Prop :=
  ((¬ v3 = (10 : Int32) → p_Md_told_190 p1 p2 post v3 v4 v5 v6 I J) ∧ (v3 = (10 : Int32) → ∃ j12, p1 = nI j12 ∧ j12 < 8 ∧ (((I (13) j12) ≤ (0) → p_Md_told_190 p1 p2 post v3 v4 v5 v6 I J) ∧ (¬ (I (13) j12) ≤ (0) → ∃ j13, p1 = nI j13 ∧ j13 < 8 ∧ ((¬ (I (15) j13) = v5 → p_Md_told_190 p1 p2 post v3 v4 v5 v6 I J) ∧ ((I (15) j13) = v5 → p_Md_idle p1 (fun I14 J15 => p_Md_told_190 p1 p2 post v3 v4 v5 v6 I14 J15) I J))))))
def p_Md_told_142 (p1 : Int32) (p2 : Int32) (post : SI → SJ → Prop) (v3 : Int32) (v4 : Int32) (v5 : Int32) (v6 : Int32) (s0 : Int32) (s1 : Int32) (I : SI) (J : SJ) : Prop :=
  ∃ j20, s1 = nI j20 ∧ j20 < 8 ∧ ∀ I21, I21 = xu I (13) j20 s0 → ∃ j22, p1 = nI j22 ∧ j22 < 8 ∧ ∀ I23, I23 = xu I21 (14) j22 v6 → ∃ j24, p1 = nI j24 ∧ j24 < 8 ∧ ∀ I25, I25 = xu I23 (15) j24 v5 → p_Md_told_159 p1 p2 post v3 v4 v5 v6 I25 J
def p_Md_told_127 (p1 : Int32) (p2 : Int32) (post : SI → SJ → Prop) (v3 : Int32) (v4 : Int32) (v5 : Int32) (v6 : Int32) (v7 : Int32) (I : SI) (J : SJ) : Prop :=
  ((v7 = (0) → p_Md_told_142 p1 p2 post v3 v4 v5 v6 (2 : Int32) p1 I J) ∧ (¬ v7 = (0) → p_Md_told_142 p1 p2 post v3 v4 v5 v6 (1 : Int32) p1 I J))
def p_Md_told_99 (p1 : Int32) (p2 : Int32) (post : SI → SJ → Prop) (v3 : Int32) (v4 : Int32) (v5 : Int32) (v6 : Int32) (s0 : Int32) (I : SI) (J : SJ) : Prop :=
  ((¬ s0 = (0) → p_Md_told_127 p1 p2 post v3 v4 v5 v6 s0 I J) ∧ (s0 = (0) → ∃ j27, p1 = nI j27 ∧ j27 < 8 ∧ ((¬ (I (13) j27) = (1 : Int32) → p_Md_told_127 p1 p2 post v3 v4 v5 v6 s0 I J) ∧ ((I (13) j27) = (1 : Int32) → ∃ j28, p1 = nI j28 ∧ j28 < 8 ∧ ((¬ (I (15) j28) = v5 → p_Md_told_159 p1 p2 post v3 v4 v5 v6 I J) ∧ ((I (15) j28) = v5 → p_Md_told_127 p1 p2 post v3 v4 v5 v6 s0 I J))))))
def p_Md_told_98 (p1 : Int32) (p2 : Int32) (post : SI → SJ → Prop) (v3 : Int32) (v4 : Int32) (v5 : Int32) (v6 : Int32) (I : SI) (J : SJ) : Prop :=
  p_Md_told_99 p1 p2 post v3 v4 v5 v6 (0 : Int32) I J
def p_Md_told_56 (p1 : Int32) (p2 : Int32) (post : SI → SJ → Prop) (v3 : Int32) (v4 : Int32) (v5 : Int32) (v6 : Int32) (I : SI) (J : SJ) : Prop :=
  ((¬ v3 = (9 : Int32) → p_Md_told_159 p1 p2 post v3 v4 v5 v6 I J) ∧ (v3 = (9 : Int32) → ∃ j19, p1 = nI j19 ∧ j19 < 8 ∧ ((¬ ((xsr (I (6) j19) v5) &&& (1 : Int32)) = (1 : Int32) → p_Md_told_159 p1 p2 post v3 v4 v5 v6 I J) ∧ (((xsr (I (6) j19) v5) &&& (1 : Int32)) = (1 : Int32) → ((¬ v4 = p1 → p_Md_told_98 p1 p2 post v3 v4 v5 v6 I J) ∧ (v4 = p1 → ∃ j32, p1 = nI j32 ∧ j32 < 8 ∧ ((¬ (I (16) j32) = v5 → p_Md_told_98 p1 p2 post v3 v4 v5 v6 I J) ∧ ((I (16) j32) = v5 → p_Md_told_99 p1 p2 post v3 v4 v5 v6 (1 : Int32) I J))))))))
def p_Md_told (p1 : Int32) (p2 : Int32) (post : SI → SJ → Prop) (I : SI) (J : SJ) : Prop :=
  ∀ x1, x1 = xsr p2 (16 : Int32) → ∀ x2, x2 = (xsr p2 (13 : Int32)) &&& (7 : Int32) → ∀ x3, x3 = (xsr p2 (11 : Int32)) &&& (3 : Int32) → ∀ x4, x4 = (xsr p2 (9 : Int32)) &&& (3 : Int32) → ((¬ x1 = (8 : Int32) → p_Md_told_56 p1 p2 post x1 x2 x3 x4 I J) ∧ (x1 = (8 : Int32) → ((¬ x2 = p1 → p_Md_told_56 p1 p2 post x1 x2 x3 x4 I J) ∧ (x2 = p1 → ∃ j37, p1 = nI j37 ∧ j37 < 8 ∧ (((I (12) j37) = (0) → p_Md_told_56 p1 p2 post x1 x2 x3 x4 I J) ∧ (¬ (I (12) j37) = (0) → p_Md_noMessage p1 (fun I38 J39 => p_Md_told_56 p1 p2 post x1 x2 x3 x4 I38 J39) I J))))))
abbrev rm_Md_told : Room := { frames := 1, cells := 0, slots := 0, locals := 21 }
def p_Md_again_L82 (p1 : Int32) (post : SI → SJ → Prop) : Nat → Int32 → SI → SJ → Prop
  | 0, _, _, _ => False
  | n + 1, v2, I, J => ∃ j13, p1 = nI j13 ∧ j13 < 8 ∧ (((I (19) j13) ≤ v2 → post I J) ∧ (¬ (I (19) j13) ≤ v2 → ∃ j14, (((8 : Int32) * p1) + v2) + (1 : Int32) = nI j14 ∧ j14 < 64 ∧ ∃ j15, ((8 : Int32) * p1) + v2 = nI j15 ∧ j15 < 64 ∧ ∀ I16, I16 = xu I (18) j15 (I (18) j14) → ∀ x17, x17 = v2 + (1 : Int32) → p_Md_again_L82 p1 post n x17 I16 J))
def p_Md_again (p1 : Int32) (post : SI → SJ → Prop) (I : SI) (J : SJ) : Prop :=
  ∃ j1, p1 = nI j1 ∧ j1 < 8 ∧ ∃ j2, p1 = nI j2 ∧ j2 < 8 ∧ ∀ I3, I3 = xu I (10) j2 ((I (10) j1) + (1 : Int32)) → ∃ j4, p1 = nI j4 ∧ j4 < 8 ∧ ((¬ (I3 (10) j4) = (5 : Int32) → ∃ j5, p1 = nI j5 ∧ j5 < 8 ∧ ((¬ (I3 (19) j5) = (0) → ∃ j6, (8 : Int32) * p1 = nI j6 ∧ j6 < 64 ∧ ∃ j7, p1 = nI j7 ∧ j7 < 8 ∧ ∀ I8, I8 = xu I3 (11) j7 (I3 (18) j6) → ∃ j9, p1 = nI j9 ∧ j9 < 8 ∧ ∃ j10, p1 = nI j10 ∧ j10 < 8 ∧ ∀ I11, I11 = xu I8 (19) j10 ((I8 (19) j9) - (1 : Int32)) → ∀ x12, x12 = (0 : Int32) → ∃ n19, p_Md_again_L82 p1 post n19 x12 I11 J) ∧ ((I3 (19) j5) = (0) → ∃ j20, p1 = nI j20 ∧ j20 < 8 ∧ ∀ I21, I21 = xu I3 (11) j20 (1 : Int32) → post I21 J))) ∧ ((I3 (10) j4) = (5 : Int32) → p_Md_noMessage p1 (fun I23 J24 => post I23 J24) I3 J))
abbrev rm_Md_again : Room := { frames := 1, cells := 0, slots := 0, locals := 21 }
set_option maxHeartbeats 4000000 in
set_option maxRecDepth 100000 in
theorem c_Md_toSay (l : Launch) (D : va_G) (κ : Nat → ClassId) {Θ : Nat → Nat} (hΘ : xJ 34 Θ) (sz : Nat) (p1 : Int32) (p2 : Int32) (I : SI) (J : SJ) (post : SI → SJ → Prop) (h : p_Md_toSay p1 p2 post I J) : Met l y_Md_toSay WS rm_Md_toSay (va_Pc [.ref (Θ (0)), .int p1, .int p2] (xPR D clA (tysA κ) 34 Θ (eM Θ κ) sz I J)) (xQv D clA 34 Θ (eM Θ κ) sz post) 0 0 (xA 34 Θ sz) := by
  refine xMet (cc := b_Md_toSay) (maxL := 3) (ret := none) (by decide) q_Md_toSay.1 ?_
  intro p e s m args below meth c s₁ B hml hv
  obtain ⟨hargs, hsz, hP, hK, hN, hG⟩ := hv
  have hx := B.exec
  have hb := B.bytes
  have hr := B.returns
  have hlocks := B.notSynchronized
  have hts := atoms_spec (ws := WS) B.pre
  have hown : s.vm.findClass R_Md = some m.cls := findClass_of_methodNamed B.named
  have C : xC p m c b_Md_toSay 3 s args R_Md D clA (tysA κ) 34 Θ sz := ⟨⟨hx, hb, hml, hown, hts⟩, hK, hN, hG, hsz⟩
  have hS : va_S (xA 34 Θ sz) s.heap s.heap [] := va_S.rf
  have hE := lg_entry_eq m [.ref (Θ (0)), .int p1, .int p2] 3
  rw [← hargs] at hE
  rw [hE]
  have hl := lv_entry [.ref (Θ (0)), .int p1, .int p2] (n := 3) (Nat.le_of_ble_eq_true rfl)
  generalize (lg_sl [.ref (Θ (0)), .int p1, .int p2] ++ List.replicate (3 - (lg_sl [.ref (Θ (0)), .int p1, .int p2]).length) Slot.unset).toArray = ls at hl ⊢
  have hl : lv_has ls 3 [(0, .ref (Θ (0))), (1, .int p1), (2, .int p2)] := hl
  unfold p_Md_toSay at h
  refine lv_aload_n hx hb d_Md_toSay_0 rfl (lv_at hl 0 rfl) ?_
  refine gfM_Md_119 C hP d_Md_toSay_1 ?_
  refine lv_iload_n hx hb d_Md_toSay_4 rfl (lv_at hl 1 rfl) ?_
  obtain ⟨j1, ej1, h_j1, h⟩ := h
  refine x_iald hx hb hK hP (33) 0 (Nat.le_of_ble_eq_true rfl) eM_sayCount rfl ej1 h_j1 (by decide) d_Md_toSay_5 ?_
  refine lv_bipush (v := (8 : Int32)) hx hb d_Md_toSay_6 (by decide) ?_
  refine lv_icmp_ge hx hb d_Md_toSay_8 (tgt := 42) rfl (fun hc8 => ?_) (fun hc8 => ?_)
  · have h := h.1 hc8
    exact x_vret hx hb hr hlocks hP hS h d_Md_toSay_42
  · have h := h.2 hc8
    refine lv_aload_n hx hb d_Md_toSay_11 rfl (lv_at hl 0 rfl) ?_
    refine gfM_Md_116 C hP d_Md_toSay_12 ?_
    refine lv_bipush (v := (9 : Int32)) hx hb d_Md_toSay_15 (by decide) ?_
    refine lv_iload_n hx hb d_Md_toSay_17 rfl (lv_at hl 1 rfl) ?_
    refine lv_imul hx hb d_Md_toSay_18 ?_
    refine lv_aload_n hx hb d_Md_toSay_19 rfl (lv_at hl 0 rfl) ?_
    refine gfM_Md_119 C hP d_Md_toSay_20 ?_
    refine lv_iload_n hx hb d_Md_toSay_23 rfl (lv_at hl 1 rfl) ?_
    obtain ⟨j2, ej2, h_j2, h⟩ := h
    refine x_iald hx hb hK hP (33) 0 (Nat.le_of_ble_eq_true rfl) eM_sayCount rfl ej2 h_j2 (by decide) d_Md_toSay_24 ?_
    refine lv_iadd hx hb d_Md_toSay_25 ?_
    refine lv_iload_n hx hb d_Md_toSay_26 rfl (lv_at hl 2 rfl) ?_
    obtain ⟨j3, ej3, h_j3, h⟩ := h
    refine x_iast hx hb hK hΘ hP hS (32) 0 (Nat.le_of_ble_eq_true rfl) eM_says rfl ej3 h_j3 (by decide) d_Md_toSay_27 (fun H locs hP hS => ?_)
    obtain ⟨I4, eI4⟩ : ∃ y, y = xu I (32) j3 p2 := ⟨_, rfl⟩
    have hP : va_P D clA (xw 34 Θ (eM Θ κ) I4 J) H := by rw [eI4]; exact hP
    have h := h I4 eI4
    refine lv_aload_n hx hb d_Md_toSay_28 rfl (lv_at hl 0 rfl) ?_
    refine gfM_Md_119 C hP d_Md_toSay_29 ?_
    refine lv_iload_n hx hb d_Md_toSay_32 rfl (lv_at hl 1 rfl) ?_
    refine lv_aload_n hx hb d_Md_toSay_33 rfl (lv_at hl 0 rfl) ?_
    refine gfM_Md_119 C hP d_Md_toSay_34 ?_
    refine lv_iload_n hx hb d_Md_toSay_37 rfl (lv_at hl 1 rfl) ?_
    obtain ⟨j5, ej5, h_j5, h⟩ := h
    refine x_iald hx hb hK hP (33) 0 (Nat.le_of_ble_eq_true rfl) eM_sayCount rfl ej5 h_j5 (by decide) d_Md_toSay_38 ?_
    refine lv_iconst (v := (1 : Int32)) hx hb d_Md_toSay_39 (by decide) ?_
    refine lv_iadd hx hb d_Md_toSay_40 ?_
    obtain ⟨j6, ej6, h_j6, h⟩ := h
    refine x_iast hx hb hK hΘ hP hS (33) 0 (Nat.le_of_ble_eq_true rfl) eM_sayCount rfl ej6 h_j6 (by decide) d_Md_toSay_41 (fun H locs hP hS => ?_)
    obtain ⟨I7, eI7⟩ : ∃ y, y = xu I4 (33) j6 ((I4 (33) j5) + (1 : Int32)) := ⟨_, rfl⟩
    have hP : va_P D clA (xw 34 Θ (eM Θ κ) I7 J) H := by rw [eI7]; exact hP
    have h := h I7 eI7
    exact x_vret hx hb hr hlocks hP hS h d_Md_toSay_42
set_option maxHeartbeats 4000000 in
set_option maxRecDepth 100000 in
theorem c_Md_sayFirst (l : Launch) (D : va_G) (κ : Nat → ClassId) {Θ : Nat → Nat} (hΘ : xJ 34 Θ) (sz : Nat) (p1 : Int32) (p2 : Int32) (I : SI) (J : SJ) (post : SI → SJ → Prop) (h : p_Md_sayFirst p1 p2 post I J) : Met l y_Md_sayFirst WS rm_Md_sayFirst (va_Pc [.ref (Θ (0)), .int p1, .int p2] (xPR D clA (tysA κ) 34 Θ (eM Θ κ) sz I J)) (xQv D clA 34 Θ (eM Θ κ) sz post) 0 0 (xA 34 Θ sz) := by
  refine xMet (cc := b_Md_sayFirst) (maxL := 4) (ret := none) (by decide) q_Md_sayFirst.1 ?_
  intro p e s m args below meth c s₁ B hml hv
  obtain ⟨hargs, hsz, hP, hK, hN, hG⟩ := hv
  have hx := B.exec
  have hb := B.bytes
  have hr := B.returns
  have hlocks := B.notSynchronized
  have hts := atoms_spec (ws := WS) B.pre
  have hown : s.vm.findClass R_Md = some m.cls := findClass_of_methodNamed B.named
  have C : xC p m c b_Md_sayFirst 4 s args R_Md D clA (tysA κ) 34 Θ sz := ⟨⟨hx, hb, hml, hown, hts⟩, hK, hN, hG, hsz⟩
  have hS : va_S (xA 34 Θ sz) s.heap s.heap [] := va_S.rf
  have tL3 : ∀ (k37 : SI → SJ → Prop), (∀ (I : SI) (J : SJ), k37 I J → ∀ (H : Heap) (locs : List Loc) (ls : Array Slot), lv_has ls 4 [(0, .ref (Θ (0))), (1, .int p1), (2, .int p2)] → va_P D clA (xw 34 Θ (eM Θ κ) I J) H → va_S (xA 34 Θ sz) s.heap H locs → W p l e (headSpec WS rm_Md_sayFirst).room s m args below meth c H locs 0 0 (MQ below (xQv D clA 34 Θ (eM Θ κ) sz post) args s 0 0 (xA 34 Θ sz)) (F0 m 37 ls [])) → ∀ (n : Nat) (v3 : Int32) (I : SI) (J : SJ), p_Md_sayFirst_L3 p1 p2 post k37 n v3 I J → ∀ (H : Heap) (locs : List Loc) (ls : Array Slot), lv_has ls 4 [(0, .ref (Θ (0))), (1, .int p1), (2, .int p2), (3, .int v3)] → va_P D clA (xw 34 Θ (eM Θ κ) I J) H → va_S (xA 34 Θ sz) s.heap H locs → W p l e (headSpec WS rm_Md_sayFirst).room s m args below meth c H locs 0 0 (MQ below (xQv D clA 34 Θ (eM Θ κ) sz post) args s 0 0 (xA 34 Θ sz)) (F0 m 3 ls []) := by
    intro k37 hk37 n
    induction n with
    | zero =>
      intro v3 I J h H locs ls hl hP hS
      exact h.elim
    | succ n ih =>
      intro v3 I J h H locs ls hl hP hS
      unfold p_Md_sayFirst_L3 at h
      refine lv_iload_n hx hb d_Md_sayFirst_3 rfl (lv_at hl 3 rfl) ?_
      refine lv_if_le hx hb d_Md_sayFirst_4 (tgt := 37) rfl (fun hc6 => ?_) (fun hc6 => ?_)
      · have h := h.1 hc6
        exact hk37 _ _ h _ _ _ (lv_sub hl [0, 1, 2] rfl) hP hS
      · have h := h.2 hc6
        refine lv_aload_n hx hb d_Md_sayFirst_7 rfl (lv_at hl 0 rfl) ?_
        refine gfM_Md_116 C hP d_Md_sayFirst_8 ?_
        refine lv_bipush (v := (9 : Int32)) hx hb d_Md_sayFirst_11 (by decide) ?_
        refine lv_iload_n hx hb d_Md_sayFirst_13 rfl (lv_at hl 1 rfl) ?_
        refine lv_imul hx hb d_Md_sayFirst_14 ?_
        refine lv_iload_n hx hb d_Md_sayFirst_15 rfl (lv_at hl 3 rfl) ?_
        refine lv_iadd hx hb d_Md_sayFirst_16 ?_
        refine lv_aload_n hx hb d_Md_sayFirst_17 rfl (lv_at hl 0 rfl) ?_
        refine gfM_Md_116 C hP d_Md_sayFirst_18 ?_
        refine lv_bipush (v := (9 : Int32)) hx hb d_Md_sayFirst_21 (by decide) ?_
        refine lv_iload_n hx hb d_Md_sayFirst_23 rfl (lv_at hl 1 rfl) ?_
        refine lv_imul hx hb d_Md_sayFirst_24 ?_
        refine lv_iload_n hx hb d_Md_sayFirst_25 rfl (lv_at hl 3 rfl) ?_
        refine lv_iadd hx hb d_Md_sayFirst_26 ?_
        refine lv_iconst (v := (1 : Int32)) hx hb d_Md_sayFirst_27 (by decide) ?_
        refine lv_isub hx hb d_Md_sayFirst_28 ?_
        obtain ⟨j2, ej2, h_j2, h⟩ := h
        refine x_iald hx hb hK hP (32) 0 (Nat.le_of_ble_eq_true rfl) eM_says rfl ej2 h_j2 (by decide) d_Md_sayFirst_29 ?_
        obtain ⟨j3, ej3, h_j3, h⟩ := h
        refine x_iast hx hb hK hΘ hP hS (32) 0 (Nat.le_of_ble_eq_true rfl) eM_says rfl ej3 h_j3 (by decide) d_Md_sayFirst_30 (fun H locs hP hS => ?_)
        obtain ⟨I4, eI4⟩ : ∃ y, y = xu I (32) j3 (I (32) j2) := ⟨_, rfl⟩
        have hP : va_P D clA (xw 34 Θ (eM Θ κ) I4 J) H := by rw [eI4]; exact hP
        have h := h I4 eI4
        obtain ⟨x5, ex5⟩ : ∃ y : Int32, y = v3 + (-1 : Int32) := ⟨_, rfl⟩
        have h := h x5 ex5
        refine lv_iinc (k := 3) (v := x5) hx hb d_Md_sayFirst_31 hl rfl (by rw [ex5]; rfl) (Nat.le_of_ble_eq_true rfl) (lv' := [(3, .int x5), (0, .ref (Θ (0))), (1, .int p1), (2, .int p2)]) rfl (fun ls hl => ?_)
        refine lv_goto hx hb d_Md_sayFirst_34 (tgt := 3) rfl ?_
        exact ih _ _ _ h _ _ _ (lv_sub hl [1, 2, 3, 0] rfl) hP hS
  have hE := lg_entry_eq m [.ref (Θ (0)), .int p1, .int p2] 4
  rw [← hargs] at hE
  rw [hE]
  have hl := lv_entry [.ref (Θ (0)), .int p1, .int p2] (n := 4) (Nat.le_of_ble_eq_true rfl)
  generalize (lg_sl [.ref (Θ (0)), .int p1, .int p2] ++ List.replicate (4 - (lg_sl [.ref (Θ (0)), .int p1, .int p2]).length) Slot.unset).toArray = ls at hl ⊢
  have hl : lv_has ls 4 [(0, .ref (Θ (0))), (1, .int p1), (2, .int p2)] := hl
  unfold p_Md_sayFirst at h
  refine lv_bipush (v := (8 : Int32)) hx hb d_Md_sayFirst_0 (by decide) ?_
  refine lv_topi (fun x1 ex1 => ?_)
  have h := h x1 ex1
  refine lv_istore_n hx hb d_Md_sayFirst_2 rfl hl (Nat.le_of_ble_eq_true rfl) (lv' := [(3, .int x1), (0, .ref (Θ (0))), (1, .int p1), (2, .int p2)]) rfl (fun ls hl => ?_)
  obtain ⟨n16, h⟩ := h
  refine tL3 _ ?_ n16 _ _ _ h _ _ _ (lv_sub hl [1, 2, 3, 0] rfl) hP hS
  · intro I7 J8 h H locs ls hl hP hS
    refine lv_aload_n hx hb d_Md_sayFirst_37 rfl (lv_at hl 0 rfl) ?_
    refine gfM_Md_116 C hP d_Md_sayFirst_38 ?_
    refine lv_bipush (v := (9 : Int32)) hx hb d_Md_sayFirst_41 (by decide) ?_
    refine lv_iload_n hx hb d_Md_sayFirst_43 rfl (lv_at hl 1 rfl) ?_
    refine lv_imul hx hb d_Md_sayFirst_44 ?_
    refine lv_iload_n hx hb d_Md_sayFirst_45 rfl (lv_at hl 2 rfl) ?_
    obtain ⟨j9, ej9, h_j9, h⟩ := h
    refine x_iast hx hb hK hΘ hP hS (32) 0 (Nat.le_of_ble_eq_true rfl) eM_says rfl ej9 h_j9 (by decide) d_Md_sayFirst_46 (fun H locs hP hS => ?_)
    obtain ⟨I10, eI10⟩ : ∃ y, y = xu I7 (32) j9 p2 := ⟨_, rfl⟩
    have hP : va_P D clA (xw 34 Θ (eM Θ κ) I10 J8) H := by rw [eI10]; exact hP
    have h := h I10 eI10
    refine lv_aload_n hx hb d_Md_sayFirst_47 rfl (lv_at hl 0 rfl) ?_
    refine gfM_Md_119 C hP d_Md_sayFirst_48 ?_
    refine lv_iload_n hx hb d_Md_sayFirst_51 rfl (lv_at hl 1 rfl) ?_
    obtain ⟨j11, ej11, h_j11, h⟩ := h
    refine x_iald hx hb hK hP (33) 0 (Nat.le_of_ble_eq_true rfl) eM_sayCount rfl ej11 h_j11 (by decide) d_Md_sayFirst_52 ?_
    refine lv_bipush (v := (8 : Int32)) hx hb d_Md_sayFirst_53 (by decide) ?_
    refine lv_icmp_ge hx hb d_Md_sayFirst_55 (tgt := 72) rfl (fun hc15 => ?_) (fun hc15 => ?_)
    · have h := h.1 hc15
      exact x_vret hx hb hr hlocks hP hS h d_Md_sayFirst_72
    · have h := h.2 hc15
      refine lv_aload_n hx hb d_Md_sayFirst_58 rfl (lv_at hl 0 rfl) ?_
      refine gfM_Md_119 C hP d_Md_sayFirst_59 ?_
      refine lv_iload_n hx hb d_Md_sayFirst_62 rfl (lv_at hl 1 rfl) ?_
      refine lv_aload_n hx hb d_Md_sayFirst_63 rfl (lv_at hl 0 rfl) ?_
      refine gfM_Md_119 C hP d_Md_sayFirst_64 ?_
      refine lv_iload_n hx hb d_Md_sayFirst_67 rfl (lv_at hl 1 rfl) ?_
      obtain ⟨j12, ej12, h_j12, h⟩ := h
      refine x_iald hx hb hK hP (33) 0 (Nat.le_of_ble_eq_true rfl) eM_sayCount rfl ej12 h_j12 (by decide) d_Md_sayFirst_68 ?_
      refine lv_iconst (v := (1 : Int32)) hx hb d_Md_sayFirst_69 (by decide) ?_
      refine lv_iadd hx hb d_Md_sayFirst_70 ?_
      obtain ⟨j13, ej13, h_j13, h⟩ := h
      refine x_iast hx hb hK hΘ hP hS (33) 0 (Nat.le_of_ble_eq_true rfl) eM_sayCount rfl ej13 h_j13 (by decide) d_Md_sayFirst_71 (fun H locs hP hS => ?_)
      obtain ⟨I14, eI14⟩ : ∃ y, y = xu I10 (33) j13 ((I10 (33) j12) + (1 : Int32)) := ⟨_, rfl⟩
      have hP : va_P D clA (xw 34 Θ (eM Θ κ) I14 J8) H := by rw [eI14]; exact hP
      have h := h I14 eI14
      exact x_vret hx hb hr hlocks hP hS h d_Md_sayFirst_72
set_option maxHeartbeats 4000000 in
set_option maxRecDepth 100000 in
theorem c_Md_inMembersCells (l : Launch) (D : va_G) (κ : Nat → ClassId) {Θ : Nat → Nat} (hΘ : xJ 34 Θ) (sz : Nat) (p1 : Int32) (p2 : Int32) (I : SI) (J : SJ) (post : SI → SJ → Prop) (h : p_Md_inMembersCells p1 p2 post I J) : Met l y_Md_inMembersCells WS rm_Md_inMembersCells (va_Pc [.ref (Θ (0)), .int p1, .int p2] (xPR D clA (tysA κ) 34 Θ (eM Θ κ) sz I J)) (xQv D clA 34 Θ (eM Θ κ) sz post) 0 0 (xA 34 Θ sz) := by
  refine xMet (cc := b_Md_inMembersCells) (maxL := 6) (ret := none) (by decide) q_Md_inMembersCells.1 ?_
  intro p e s m args below meth c s₁ B hml hv
  obtain ⟨hargs, hsz, hP, hK, hN, hG⟩ := hv
  have hx := B.exec
  have hb := B.bytes
  have hr := B.returns
  have hlocks := B.notSynchronized
  have hts := atoms_spec (ws := WS) B.pre
  have hown : s.vm.findClass R_Md = some m.cls := findClass_of_methodNamed B.named
  have C : xC p m c b_Md_inMembersCells 6 s args R_Md D clA (tysA κ) 34 Θ sz := ⟨⟨hx, hb, hml, hown, hts⟩, hK, hN, hG, hsz⟩
  have hS : va_S (xA 34 Θ sz) s.heap s.heap [] := va_S.rf
  have tJ49 : ∀ (k13 : Int32 → Int32 → Int32 → SI → SJ → Prop), (∀ (v3 : Int32) (v4 : Int32) (v5 : Int32) (I : SI) (J : SJ), k13 v3 v4 v5 I J → ∀ (H : Heap) (locs : List Loc) (ls : Array Slot), lv_has ls 6 [(0, .ref (Θ (0))), (1, .int p1), (2, .int p2), (3, .int v3), (4, .int v4), (5, .int v5)] → va_P D clA (xw 34 Θ (eM Θ κ) I J) H → va_S (xA 34 Θ sz) s.heap H locs → W p l e (headSpec WS rm_Md_inMembersCells).room s m args below meth c H locs 0 0 (MQ below (xQv D clA 34 Θ (eM Θ κ) sz post) args s 0 0 (xA 34 Θ sz)) (F0 m 13 ls [])) → ∀ (v3 : Int32) (v4 : Int32) (v5 : Int32) (I : SI) (J : SJ), p_Md_inMembersCells_49 p1 p2 post k13 v3 v4 v5 I J → ∀ (H : Heap) (locs : List Loc) (ls : Array Slot), lv_has ls 6 [(0, .ref (Θ (0))), (1, .int p1), (2, .int p2), (3, .int v3), (4, .int v4), (5, .int v5)] → va_P D clA (xw 34 Θ (eM Θ κ) I J) H → va_S (xA 34 Θ sz) s.heap H locs → W p l e (headSpec WS rm_Md_inMembersCells).room s m args below meth c H locs 0 0 (MQ below (xQv D clA 34 Θ (eM Θ κ) sz post) args s 0 0 (xA 34 Θ sz)) (F0 m 49 ls []) := by
    intro k13 hk13 v3 v4 v5 I J h H locs ls hl hP hS
    unfold p_Md_inMembersCells_49 at h
    obtain ⟨x5, ex5⟩ : ∃ y : Int32, y = v5 + (1 : Int32) := ⟨_, rfl⟩
    have h := h x5 ex5
    refine lv_iinc (k := 5) (v := x5) hx hb d_Md_inMembersCells_49 hl rfl (by rw [ex5]; rfl) (Nat.le_of_ble_eq_true rfl) (lv' := [(5, .int x5), (0, .ref (Θ (0))), (1, .int p1), (2, .int p2), (3, .int v3), (4, .int v4)]) rfl (fun ls hl => ?_)
    refine lv_goto hx hb d_Md_inMembersCells_52 (tgt := 13) rfl ?_
    exact hk13 _ _ _ _ _ h _ _ _ (lv_sub hl [1, 2, 3, 4, 5, 0] rfl) hP hS
  have tL13 : ∀ (k55 : Int32 → Int32 → SI → SJ → Prop), (∀ (v3 : Int32) (v4 : Int32) (I : SI) (J : SJ), k55 v3 v4 I J → ∀ (H : Heap) (locs : List Loc) (ls : Array Slot), lv_has ls 6 [(0, .ref (Θ (0))), (1, .int p1), (2, .int p2), (3, .int v3), (4, .int v4)] → va_P D clA (xw 34 Θ (eM Θ κ) I J) H → va_S (xA 34 Θ sz) s.heap H locs → W p l e (headSpec WS rm_Md_inMembersCells).room s m args below meth c H locs 0 0 (MQ below (xQv D clA 34 Θ (eM Θ κ) sz post) args s 0 0 (xA 34 Θ sz)) (F0 m 55 ls [])) → ∀ (n : Nat) (v3 : Int32) (v4 : Int32) (v5 : Int32) (I : SI) (J : SJ), p_Md_inMembersCells_L13 p1 p2 post k55 n v3 v4 v5 I J → ∀ (H : Heap) (locs : List Loc) (ls : Array Slot), lv_has ls 6 [(0, .ref (Θ (0))), (1, .int p1), (2, .int p2), (3, .int v3), (4, .int v4), (5, .int v5)] → va_P D clA (xw 34 Θ (eM Θ κ) I J) H → va_S (xA 34 Θ sz) s.heap H locs → W p l e (headSpec WS rm_Md_inMembersCells).room s m args below meth c H locs 0 0 (MQ below (xQv D clA 34 Θ (eM Θ κ) sz post) args s 0 0 (xA 34 Θ sz)) (F0 m 13 ls []) := by
    intro k55 hk55 n
    induction n with
    | zero =>
      intro v3 v4 v5 I J h H locs ls hl hP hS
      exact h.elim
    | succ n ih =>
      intro v3 v4 v5 I J h H locs ls hl hP hS
      unfold p_Md_inMembersCells_L13 at h
      refine lv_iload hx hb d_Md_inMembersCells_13 (lv_at hl 5 rfl) ?_
      refine lv_bipush (v := (8 : Int32)) hx hb d_Md_inMembersCells_15 (by decide) ?_
      refine lv_icmp_ge hx hb d_Md_inMembersCells_17 (tgt := 55) rfl (fun hc10 => ?_) (fun hc10 => ?_)
      · have h := h.1 hc10
        exact hk55 _ _ _ _ h _ _ _ (lv_sub hl [0, 1, 2, 3, 4] rfl) hP hS
      · have h := h.2 hc10
        refine lv_aload_n hx hb d_Md_inMembersCells_20 rfl (lv_at hl 0 rfl) ?_
        refine gfM_Md_91 C hP d_Md_inMembersCells_21 ?_
        refine lv_iload hx hb d_Md_inMembersCells_24 (lv_at hl 5 rfl) ?_
        obtain ⟨j4, ej4, h_j4, h⟩ := h
        refine x_iald hx hb hK hP (24) 0 (Nat.le_of_ble_eq_true rfl) eM_registered rfl ej4 h_j4 (by decide) d_Md_inMembersCells_26 ?_
        refine lv_iload_n hx hb d_Md_inMembersCells_27 rfl (lv_at hl 3 rfl) ?_
        refine lv_icmp_ne hx hb d_Md_inMembersCells_28 (tgt := 49) rfl (fun hc9 => ?_) (fun hc9 => ?_)
        · have h := h.1 hc9
          exact tJ49 _ ih _ _ _ _ _ h _ _ _ (lv_sub hl [0, 1, 2, 3, 4, 5] rfl) hP hS
        · have h := h.2 hc9
          refine lv_aload_n hx hb d_Md_inMembersCells_31 rfl (lv_at hl 0 rfl) ?_
          refine gfM_Md_36 C hP d_Md_inMembersCells_32 ?_
          refine lv_iload hx hb d_Md_inMembersCells_35 (lv_at hl 5 rfl) ?_
          obtain ⟨j6, ej6, h_j6, h⟩ := h
          refine x_iald hx hb hK hP (6) 0 (Nat.le_of_ble_eq_true rfl) eM_groups rfl ej6 h_j6 (by decide) d_Md_inMembersCells_37 ?_
          refine lv_iload_n hx hb d_Md_inMembersCells_38 rfl (lv_at hl 1 rfl) ?_
          refine lv_ishr hx hb d_Md_inMembersCells_39 ?_
          refine lv_iconst (v := (1 : Int32)) hx hb d_Md_inMembersCells_40 (by decide) ?_
          refine lv_iand hx hb d_Md_inMembersCells_41 ?_
          refine lv_iconst (v := (1 : Int32)) hx hb d_Md_inMembersCells_42 (by decide) ?_
          refine lv_icmp_ne hx hb d_Md_inMembersCells_43 (tgt := 49) rfl (fun hc8 => ?_) (fun hc8 => ?_)
          · have h := h.1 hc8
            exact tJ49 _ ih _ _ _ _ _ h _ _ _ (lv_sub hl [0, 1, 2, 3, 4, 5] rfl) hP hS
          · have h := h.2 hc8
            refine lv_iconst (v := (1 : Int32)) hx hb d_Md_inMembersCells_46 (by decide) ?_
            refine lv_topi (fun x7 ex7 => ?_)
            have h := h x7 ex7
            refine lv_istore hx hb d_Md_inMembersCells_47 hl (Nat.le_of_ble_eq_true rfl) (lv' := [(4, .int x7), (0, .ref (Θ (0))), (1, .int p1), (2, .int p2), (3, .int v3), (5, .int v5)]) rfl (fun ls hl => ?_)
            exact tJ49 _ ih _ _ _ _ _ h _ _ _ (lv_sub hl [1, 2, 3, 4, 0, 5] rfl) hP hS
  have tJ66 : ∀ (k2 : Int32 → SI → SJ → Prop), (∀ (v3 : Int32) (I : SI) (J : SJ), k2 v3 I J → ∀ (H : Heap) (locs : List Loc) (ls : Array Slot), lv_has ls 6 [(0, .ref (Θ (0))), (1, .int p1), (2, .int p2), (3, .int v3)] → va_P D clA (xw 34 Θ (eM Θ κ) I J) H → va_S (xA 34 Θ sz) s.heap H locs → W p l e (headSpec WS rm_Md_inMembersCells).room s m args below meth c H locs 0 0 (MQ below (xQv D clA 34 Θ (eM Θ κ) sz post) args s 0 0 (xA 34 Θ sz)) (F0 m 2 ls [])) → ∀ (v3 : Int32) (I : SI) (J : SJ), p_Md_inMembersCells_66 p1 p2 post k2 v3 I J → ∀ (H : Heap) (locs : List Loc) (ls : Array Slot), lv_has ls 6 [(0, .ref (Θ (0))), (1, .int p1), (2, .int p2), (3, .int v3)] → va_P D clA (xw 34 Θ (eM Θ κ) I J) H → va_S (xA 34 Θ sz) s.heap H locs → W p l e (headSpec WS rm_Md_inMembersCells).room s m args below meth c H locs 0 0 (MQ below (xQv D clA 34 Θ (eM Θ κ) sz post) args s 0 0 (xA 34 Θ sz)) (F0 m 66 ls []) := by
    intro k2 hk2 v3 I J h H locs ls hl hP hS
    unfold p_Md_inMembersCells_66 at h
    obtain ⟨x15, ex15⟩ : ∃ y : Int32, y = v3 + (1 : Int32) := ⟨_, rfl⟩
    have h := h x15 ex15
    refine lv_iinc (k := 3) (v := x15) hx hb d_Md_inMembersCells_66 hl rfl (by rw [ex15]; rfl) (Nat.le_of_ble_eq_true rfl) (lv' := [(3, .int x15), (0, .ref (Θ (0))), (1, .int p1), (2, .int p2)]) rfl (fun ls hl => ?_)
    refine lv_goto hx hb d_Md_inMembersCells_69 (tgt := 2) rfl ?_
    exact hk2 _ _ _ h _ _ _ (lv_sub hl [1, 2, 3, 0] rfl) hP hS
  have tL2 : ∀ (n : Nat) (v3 : Int32) (I : SI) (J : SJ), p_Md_inMembersCells_L2 p1 p2 post n v3 I J → ∀ (H : Heap) (locs : List Loc) (ls : Array Slot), lv_has ls 6 [(0, .ref (Θ (0))), (1, .int p1), (2, .int p2), (3, .int v3)] → va_P D clA (xw 34 Θ (eM Θ κ) I J) H → va_S (xA 34 Θ sz) s.heap H locs → W p l e (headSpec WS rm_Md_inMembersCells).room s m args below meth c H locs 0 0 (MQ below (xQv D clA 34 Θ (eM Θ κ) sz post) args s 0 0 (xA 34 Θ sz)) (F0 m 2 ls []) := by
    intro n
    induction n with
    | zero =>
      intro v3 I J h H locs ls hl hP hS
      exact h.elim
    | succ n ih =>
      intro v3 I J h H locs ls hl hP hS
      unfold p_Md_inMembersCells_L2 at h
      refine lv_iload_n hx hb d_Md_inMembersCells_2 rfl (lv_at hl 3 rfl) ?_
      refine lv_iconst (v := (3 : Int32)) hx hb d_Md_inMembersCells_3 (by decide) ?_
      refine lv_icmp_ge hx hb d_Md_inMembersCells_4 (tgt := 72) rfl (fun hc20 => ?_) (fun hc20 => ?_)
      · have h := h.1 hc20
        exact x_vret hx hb hr hlocks hP hS h d_Md_inMembersCells_72
      · have h := h.2 hc20
        refine lv_iconst (v := (0 : Int32)) hx hb d_Md_inMembersCells_7 (by decide) ?_
        refine lv_topi (fun x2 ex2 => ?_)
        have h := h x2 ex2
        refine lv_istore hx hb d_Md_inMembersCells_8 hl (Nat.le_of_ble_eq_true rfl) (lv' := [(4, .int x2), (0, .ref (Θ (0))), (1, .int p1), (2, .int p2), (3, .int v3)]) rfl (fun ls hl => ?_)
        refine lv_iconst (v := (0 : Int32)) hx hb d_Md_inMembersCells_10 (by decide) ?_
        refine lv_topi (fun x3 ex3 => ?_)
        have h := h x3 ex3
        refine lv_istore hx hb d_Md_inMembersCells_11 hl (Nat.le_of_ble_eq_true rfl) (lv' := [(5, .int x3), (4, .int x2), (0, .ref (Θ (0))), (1, .int p1), (2, .int p2), (3, .int v3)]) rfl (fun ls hl => ?_)
        obtain ⟨n19, h⟩ := h
        refine tL13 _ ?_ n19 _ _ _ _ _ h _ _ _ (lv_sub hl [2, 3, 4, 5, 1, 0] rfl) hP hS
        · intro z11 z12 I13 J14 h H locs ls hl hP hS
          refine lv_iload hx hb d_Md_inMembersCells_55 (lv_at hl 4 rfl) ?_
          refine lv_if_eq hx hb d_Md_inMembersCells_57 (tgt := 66) rfl (fun hc18 => ?_) (fun hc18 => ?_)
          · have h := h.1 hc18
            exact tJ66 _ ih _ _ _ h _ _ _ (lv_sub hl [0, 1, 2, 3] rfl) hP hS
          · have h := h.2 hc18
            refine lv_aload_n hx hb d_Md_inMembersCells_60 rfl (lv_at hl 0 rfl) ?_
            refine lv_iload_n hx hb d_Md_inMembersCells_61 rfl (lv_at hl 3 rfl) ?_
            refine lv_iload_n hx hb d_Md_inMembersCells_62 rfl (lv_at hl 2 rfl) ?_
            refine x_gv (x_V C hP hS (Nat.le_of_ble_eq_true rfl) (eM_Md _ _) rfl (c_Md_toSay l D κ hΘ sz z11 p2 I13 J14 _ h) q_Md_toSay k_1022 sel_Md_toSay k_1020 rfl rfl ⟨Nat.le_of_ble_eq_true rfl, Nat.le_of_ble_eq_true rfl⟩ rfl hl.1 rfl (Nat.le_of_ble_eq_true rfl) d_Md_inMembersCells_63) hS (fun I16 J17 h H locs hP hS => ?_)
            exact tJ66 _ ih _ _ _ h _ _ _ (lv_sub hl [0, 1, 2, 3] rfl) hP hS
  have hE := lg_entry_eq m [.ref (Θ (0)), .int p1, .int p2] 6
  rw [← hargs] at hE
  rw [hE]
  have hl := lv_entry [.ref (Θ (0)), .int p1, .int p2] (n := 6) (Nat.le_of_ble_eq_true rfl)
  generalize (lg_sl [.ref (Θ (0)), .int p1, .int p2] ++ List.replicate (6 - (lg_sl [.ref (Θ (0)), .int p1, .int p2]).length) Slot.unset).toArray = ls at hl ⊢
  have hl : lv_has ls 6 [(0, .ref (Θ (0))), (1, .int p1), (2, .int p2)] := hl
  unfold p_Md_inMembersCells at h
  refine lv_iconst (v := (0 : Int32)) hx hb d_Md_inMembersCells_0 (by decide) ?_
  refine lv_topi (fun x1 ex1 => ?_)
  have h := h x1 ex1
  refine lv_istore_n hx hb d_Md_inMembersCells_1 rfl hl (Nat.le_of_ble_eq_true rfl) (lv' := [(3, .int x1), (0, .ref (Θ (0))), (1, .int p1), (2, .int p2)]) rfl (fun ls hl => ?_)
  obtain ⟨n21, h⟩ := h
  refine tL2 n21 _ _ _ h _ _ _ (lv_sub hl [1, 2, 3, 0] rfl) hP hS
set_option maxHeartbeats 4000000 in
set_option maxRecDepth 100000 in
theorem c_Md_freeChannel (l : Launch) (D : va_G) (κ : Nat → ClassId) {Θ : Nat → Nat} (hΘ : xJ 34 Θ) (sz : Nat) (I : SI) (J : SJ) (post : Int32 → SI → SJ → Prop) (h : p_Md_freeChannel post I J) : Met l y_Md_freeChannel WS rm_Md_freeChannel (va_Pc [.ref (Θ (0))] (xPR D clA (tysA κ) 34 Θ (eM Θ κ) sz I J)) (xQi D clA 34 Θ (eM Θ κ) sz post) 0 0 (xA 34 Θ sz) := by
  refine xMet (cc := b_Md_freeChannel) (maxL := 4) (ret := (some .int)) (by decide) q_Md_freeChannel.1 ?_
  intro p e s m args below meth c s₁ B hml hv
  obtain ⟨hargs, hsz, hP, hK, hN, hG⟩ := hv
  have hx := B.exec
  have hb := B.bytes
  have hr := B.returns
  have hlocks := B.notSynchronized
  have hts := atoms_spec (ws := WS) B.pre
  have hown : s.vm.findClass R_Md = some m.cls := findClass_of_methodNamed B.named
  have C : xC p m c b_Md_freeChannel 4 s args R_Md D clA (tysA κ) 34 Θ sz := ⟨⟨hx, hb, hml, hown, hts⟩, hK, hN, hG, hsz⟩
  have hS : va_S (xA 34 Θ sz) s.heap s.heap [] := va_S.rf
  have tJ28 : ∀ (k11 : Int32 → Int32 → Int32 → SI → SJ → Prop), (∀ (v1 : Int32) (v2 : Int32) (v3 : Int32) (I : SI) (J : SJ), k11 v1 v2 v3 I J → ∀ (H : Heap) (locs : List Loc) (ls : Array Slot), lv_has ls 4 [(0, .ref (Θ (0))), (1, .int v1), (2, .int v2), (3, .int v3)] → va_P D clA (xw 34 Θ (eM Θ κ) I J) H → va_S (xA 34 Θ sz) s.heap H locs → W p l e (headSpec WS rm_Md_freeChannel).room s m args below meth c H locs 0 0 (MQ below (xQi D clA 34 Θ (eM Θ κ) sz post) args s 0 0 (xA 34 Θ sz)) (F0 m 11 ls [])) → ∀ (v1 : Int32) (v2 : Int32) (v3 : Int32) (I : SI) (J : SJ), p_Md_freeChannel_28 post k11 v1 v2 v3 I J → ∀ (H : Heap) (locs : List Loc) (ls : Array Slot), lv_has ls 4 [(0, .ref (Θ (0))), (1, .int v1), (2, .int v2), (3, .int v3)] → va_P D clA (xw 34 Θ (eM Θ κ) I J) H → va_S (xA 34 Θ sz) s.heap H locs → W p l e (headSpec WS rm_Md_freeChannel).room s m args below meth c H locs 0 0 (MQ below (xQi D clA 34 Θ (eM Θ κ) sz post) args s 0 0 (xA 34 Θ sz)) (F0 m 28 ls []) := by
    intro k11 hk11 v1 v2 v3 I J h H locs ls hl hP hS
    unfold p_Md_freeChannel_28 at h
    obtain ⟨x5, ex5⟩ : ∃ y : Int32, y = v3 + (1 : Int32) := ⟨_, rfl⟩
    have h := h x5 ex5
    refine lv_iinc (k := 3) (v := x5) hx hb d_Md_freeChannel_28 hl rfl (by rw [ex5]; rfl) (Nat.le_of_ble_eq_true rfl) (lv' := [(3, .int x5), (0, .ref (Θ (0))), (1, .int v1), (2, .int v2)]) rfl (fun ls hl => ?_)
    refine lv_goto hx hb d_Md_freeChannel_31 (tgt := 11) rfl ?_
    exact hk11 _ _ _ _ _ h _ _ _ (lv_sub hl [1, 2, 3, 0] rfl) hP hS
  have tL11 : ∀ (k34 : Int32 → Int32 → SI → SJ → Prop), (∀ (v1 : Int32) (v2 : Int32) (I : SI) (J : SJ), k34 v1 v2 I J → ∀ (H : Heap) (locs : List Loc) (ls : Array Slot), lv_has ls 4 [(0, .ref (Θ (0))), (1, .int v1), (2, .int v2)] → va_P D clA (xw 34 Θ (eM Θ κ) I J) H → va_S (xA 34 Θ sz) s.heap H locs → W p l e (headSpec WS rm_Md_freeChannel).room s m args below meth c H locs 0 0 (MQ below (xQi D clA 34 Θ (eM Θ κ) sz post) args s 0 0 (xA 34 Θ sz)) (F0 m 34 ls [])) → ∀ (n : Nat) (v1 : Int32) (v2 : Int32) (v3 : Int32) (I : SI) (J : SJ), p_Md_freeChannel_L11 post k34 n v1 v2 v3 I J → ∀ (H : Heap) (locs : List Loc) (ls : Array Slot), lv_has ls 4 [(0, .ref (Θ (0))), (1, .int v1), (2, .int v2), (3, .int v3)] → va_P D clA (xw 34 Θ (eM Θ κ) I J) H → va_S (xA 34 Θ sz) s.heap H locs → W p l e (headSpec WS rm_Md_freeChannel).room s m args below meth c H locs 0 0 (MQ below (xQi D clA 34 Θ (eM Θ κ) sz post) args s 0 0 (xA 34 Θ sz)) (F0 m 11 ls []) := by
    intro k34 hk34 n
    induction n with
    | zero =>
      intro v1 v2 v3 I J h H locs ls hl hP hS
      exact h.elim
    | succ n ih =>
      intro v1 v2 v3 I J h H locs ls hl hP hS
      unfold p_Md_freeChannel_L11 at h
      refine lv_iload_n hx hb d_Md_freeChannel_11 rfl (lv_at hl 3 rfl) ?_
      refine lv_iconst (v := (4 : Int32)) hx hb d_Md_freeChannel_12 (by decide) ?_
      refine lv_icmp_ge hx hb d_Md_freeChannel_13 (tgt := 34) rfl (fun hc8 => ?_) (fun hc8 => ?_)
      · have h := h.1 hc8
        exact hk34 _ _ _ _ h _ _ _ (lv_sub hl [0, 1, 2] rfl) hP hS
      · have h := h.2 hc8
        refine lv_aload_n hx hb d_Md_freeChannel_16 rfl (lv_at hl 0 rfl) ?_
        refine gfM_Md_101 C hP d_Md_freeChannel_17 ?_
        refine lv_iload_n hx hb d_Md_freeChannel_20 rfl (lv_at hl 3 rfl) ?_
        obtain ⟨j4, ej4, h_j4, h⟩ := h
        refine x_iald hx hb hK hP (27) 0 (Nat.le_of_ble_eq_true rfl) eM_callChannel rfl ej4 h_j4 (by decide) d_Md_freeChannel_21 ?_
        refine lv_iload_n hx hb d_Md_freeChannel_22 rfl (lv_at hl 1 rfl) ?_
        refine lv_icmp_ne hx hb d_Md_freeChannel_23 (tgt := 28) rfl (fun hc7 => ?_) (fun hc7 => ?_)
        · have h := h.1 hc7
          exact tJ28 _ ih _ _ _ _ _ h _ _ _ (lv_sub hl [0, 1, 2, 3] rfl) hP hS
        · have h := h.2 hc7
          refine lv_iconst (v := (1 : Int32)) hx hb d_Md_freeChannel_26 (by decide) ?_
          refine lv_topi (fun x6 ex6 => ?_)
          have h := h x6 ex6
          refine lv_istore_n hx hb d_Md_freeChannel_27 rfl hl (Nat.le_of_ble_eq_true rfl) (lv' := [(2, .int x6), (0, .ref (Θ (0))), (1, .int v1), (3, .int v3)]) rfl (fun ls hl => ?_)
          exact tJ28 _ ih _ _ _ _ _ h _ _ _ (lv_sub hl [1, 2, 0, 3] rfl) hP hS
  have tL2 : ∀ (n : Nat) (v1 : Int32) (I : SI) (J : SJ), p_Md_freeChannel_L2 post n v1 I J → ∀ (H : Heap) (locs : List Loc) (ls : Array Slot), lv_has ls 4 [(0, .ref (Θ (0))), (1, .int v1)] → va_P D clA (xw 34 Θ (eM Θ κ) I J) H → va_S (xA 34 Θ sz) s.heap H locs → W p l e (headSpec WS rm_Md_freeChannel).room s m args below meth c H locs 0 0 (MQ below (xQi D clA 34 Θ (eM Θ κ) sz post) args s 0 0 (xA 34 Θ sz)) (F0 m 2 ls []) := by
    intro n
    induction n with
    | zero =>
      intro v1 I J h H locs ls hl hP hS
      exact h.elim
    | succ n ih =>
      intro v1 I J h H locs ls hl hP hS
      unfold p_Md_freeChannel_L2 at h
      refine lv_iload_n hx hb d_Md_freeChannel_2 rfl (lv_at hl 1 rfl) ?_
      refine lv_iconst (v := (4 : Int32)) hx hb d_Md_freeChannel_3 (by decide) ?_
      refine lv_icmp_ge hx hb d_Md_freeChannel_4 (tgt := 46) rfl (fun hc16 => ?_) (fun hc16 => ?_)
      · have h := h.1 hc16
        refine lv_iconst (v := (0 : Int32)) hx hb d_Md_freeChannel_46 (by decide) ?_
        exact x_iret hx hb hr hlocks hP hS h d_Md_freeChannel_47
      · have h := h.2 hc16
        refine lv_iconst (v := (0 : Int32)) hx hb d_Md_freeChannel_7 (by decide) ?_
        refine lv_topi (fun x2 ex2 => ?_)
        have h := h x2 ex2
        refine lv_istore_n hx hb d_Md_freeChannel_8 rfl hl (Nat.le_of_ble_eq_true rfl) (lv' := [(2, .int x2), (0, .ref (Θ (0))), (1, .int v1)]) rfl (fun ls hl => ?_)
        refine lv_iconst (v := (0 : Int32)) hx hb d_Md_freeChannel_9 (by decide) ?_
        refine lv_topi (fun x3 ex3 => ?_)
        have h := h x3 ex3
        refine lv_istore_n hx hb d_Md_freeChannel_10 rfl hl (Nat.le_of_ble_eq_true rfl) (lv' := [(3, .int x3), (2, .int x2), (0, .ref (Θ (0))), (1, .int v1)]) rfl (fun ls hl => ?_)
        obtain ⟨n15, h⟩ := h
        refine tL11 _ ?_ n15 _ _ _ _ _ h _ _ _ (lv_sub hl [2, 3, 1, 0] rfl) hP hS
        · intro z9 z10 I11 J12 h H locs ls hl hP hS
          refine lv_iload_n hx hb d_Md_freeChannel_34 rfl (lv_at hl 2 rfl) ?_
          refine lv_if_ne hx hb d_Md_freeChannel_35 (tgt := 40) rfl (fun hc14 => ?_) (fun hc14 => ?_)
          · have h := h.1 hc14
            obtain ⟨x13, ex13⟩ : ∃ y : Int32, y = z9 + (1 : Int32) := ⟨_, rfl⟩
            have h := h x13 ex13
            refine lv_iinc (k := 1) (v := x13) hx hb d_Md_freeChannel_40 hl rfl (by rw [ex13]; rfl) (Nat.le_of_ble_eq_true rfl) (lv' := [(1, .int x13), (0, .ref (Θ (0))), (2, .int z10)]) rfl (fun ls hl => ?_)
            refine lv_goto hx hb d_Md_freeChannel_43 (tgt := 2) rfl ?_
            exact ih _ _ _ h _ _ _ (lv_sub hl [1, 0] rfl) hP hS
          · have h := h.2 hc14
            refine lv_iload_n hx hb d_Md_freeChannel_38 rfl (lv_at hl 1 rfl) ?_
            exact x_iret hx hb hr hlocks hP hS h d_Md_freeChannel_39
  have hE := lg_entry_eq m [.ref (Θ (0))] 4
  rw [← hargs] at hE
  rw [hE]
  have hl := lv_entry [.ref (Θ (0))] (n := 4) (Nat.le_of_ble_eq_true rfl)
  generalize (lg_sl [.ref (Θ (0))] ++ List.replicate (4 - (lg_sl [.ref (Θ (0))]).length) Slot.unset).toArray = ls at hl ⊢
  have hl : lv_has ls 4 [(0, .ref (Θ (0)))] := hl
  unfold p_Md_freeChannel at h
  refine lv_iconst (v := (1 : Int32)) hx hb d_Md_freeChannel_0 (by decide) ?_
  refine lv_topi (fun x1 ex1 => ?_)
  have h := h x1 ex1
  refine lv_istore_n hx hb d_Md_freeChannel_1 rfl hl (Nat.le_of_ble_eq_true rfl) (lv' := [(1, .int x1), (0, .ref (Θ (0)))]) rfl (fun ls hl => ?_)
  obtain ⟨n17, h⟩ := h
  refine tL2 n17 _ _ _ h _ _ _ (lv_sub hl [1, 0] rfl) hP hS
set_option maxHeartbeats 4000000 in
set_option maxRecDepth 100000 in
theorem c_Md_serve (l : Launch) (D : va_G) (κ : Nat → ClassId) {Θ : Nat → Nat} (hΘ : xJ 34 Θ) (sz : Nat) (p1 : Int32) (I : SI) (J : SJ) (post : SI → SJ → Prop) (h : p_Md_serve p1 post I J) : Met l y_Md_serve WS rm_Md_serve (va_Pc [.ref (Θ (0)), .int p1] (xPR D clA (tysA κ) 34 Θ (eM Θ κ) sz I J)) (xQv D clA 34 Θ (eM Θ κ) sz post) 0 0 (xA 34 Θ sz) := by
  refine xMet (cc := b_Md_serve) (maxL := 5) (ret := none) (by decide) q_Md_serve.1 ?_
  intro p e s m args below meth c s₁ B hml hv
  obtain ⟨hargs, hsz, hP, hK, hN, hG⟩ := hv
  have hx := B.exec
  have hb := B.bytes
  have hr := B.returns
  have hlocks := B.notSynchronized
  have hts := atoms_spec (ws := WS) B.pre
  have hown : s.vm.findClass R_Md = some m.cls := findClass_of_methodNamed B.named
  have C : xC p m c b_Md_serve 5 s args R_Md D clA (tysA κ) 34 Θ sz := ⟨⟨hx, hb, hml, hown, hts⟩, hK, hN, hG, hsz⟩
  have hS : va_S (xA 34 Θ sz) s.heap s.heap [] := va_S.rf
  have tJ86 : ∀ (k42 : Int32 → Int32 → Int32 → SI → SJ → Prop), (∀ (v2 : Int32) (v3 : Int32) (v4 : Int32) (I : SI) (J : SJ), k42 v2 v3 v4 I J → ∀ (H : Heap) (locs : List Loc) (ls : Array Slot), lv_has ls 5 [(0, .ref (Θ (0))), (1, .int p1), (2, .int v2), (3, .int v3), (4, .int v4)] → va_P D clA (xw 34 Θ (eM Θ κ) I J) H → va_S (xA 34 Θ sz) s.heap H locs → W p l e (headSpec WS rm_Md_serve).room s m args below meth c H locs 0 0 (MQ below (xQv D clA 34 Θ (eM Θ κ) sz post) args s 0 0 (xA 34 Θ sz)) (F0 m 42 ls [])) → ∀ (v2 : Int32) (v3 : Int32) (v4 : Int32) (I : SI) (J : SJ), p_Md_serve_86 p1 post k42 v2 v3 v4 I J → ∀ (H : Heap) (locs : List Loc) (ls : Array Slot), lv_has ls 5 [(0, .ref (Θ (0))), (1, .int p1), (2, .int v2), (3, .int v3), (4, .int v4)] → va_P D clA (xw 34 Θ (eM Θ κ) I J) H → va_S (xA 34 Θ sz) s.heap H locs → W p l e (headSpec WS rm_Md_serve).room s m args below meth c H locs 0 0 (MQ below (xQv D clA 34 Θ (eM Θ κ) sz post) args s 0 0 (xA 34 Θ sz)) (F0 m 86 ls []) := by
    intro k42 hk42 v2 v3 v4 I J h H locs ls hl hP hS
    unfold p_Md_serve_86 at h
    obtain ⟨x11, ex11⟩ : ∃ y : Int32, y = v4 + (1 : Int32) := ⟨_, rfl⟩
    have h := h x11 ex11
    refine lv_iinc (k := 4) (v := x11) hx hb d_Md_serve_86 hl rfl (by rw [ex11]; rfl) (Nat.le_of_ble_eq_true rfl) (lv' := [(4, .int x11), (0, .ref (Θ (0))), (1, .int p1), (2, .int v2), (3, .int v3)]) rfl (fun ls hl => ?_)
    refine lv_goto hx hb d_Md_serve_89 (tgt := 42) rfl ?_
    exact hk42 _ _ _ _ _ h _ _ _ (lv_sub hl [1, 2, 3, 4, 0] rfl) hP hS
  have tL42 : ∀ (k92 : Int32 → Int32 → SI → SJ → Prop), (∀ (v2 : Int32) (v3 : Int32) (I : SI) (J : SJ), k92 v2 v3 I J → ∀ (H : Heap) (locs : List Loc) (ls : Array Slot), lv_has ls 5 [(0, .ref (Θ (0))), (1, .int p1), (2, .int v2), (3, .int v3)] → va_P D clA (xw 34 Θ (eM Θ κ) I J) H → va_S (xA 34 Θ sz) s.heap H locs → W p l e (headSpec WS rm_Md_serve).room s m args below meth c H locs 0 0 (MQ below (xQv D clA 34 Θ (eM Θ κ) sz post) args s 0 0 (xA 34 Θ sz)) (F0 m 92 ls [])) → ∀ (n : Nat) (v2 : Int32) (v3 : Int32) (v4 : Int32) (I : SI) (J : SJ), p_Md_serve_L42 p1 post k92 n v2 v3 v4 I J → ∀ (H : Heap) (locs : List Loc) (ls : Array Slot), lv_has ls 5 [(0, .ref (Θ (0))), (1, .int p1), (2, .int v2), (3, .int v3), (4, .int v4)] → va_P D clA (xw 34 Θ (eM Θ κ) I J) H → va_S (xA 34 Θ sz) s.heap H locs → W p l e (headSpec WS rm_Md_serve).room s m args below meth c H locs 0 0 (MQ below (xQv D clA 34 Θ (eM Θ κ) sz post) args s 0 0 (xA 34 Θ sz)) (F0 m 42 ls []) := by
    intro k92 hk92 n
    induction n with
    | zero =>
      intro v2 v3 v4 I J h H locs ls hl hP hS
      exact h.elim
    | succ n ih =>
      intro v2 v3 v4 I J h H locs ls hl hP hS
      unfold p_Md_serve_L42 at h
      refine lv_iload hx hb d_Md_serve_42 (lv_at hl 4 rfl) ?_
      refine lv_aload_n hx hb d_Md_serve_44 rfl (lv_at hl 0 rfl) ?_
      refine gfM_Md_113 C hP d_Md_serve_45 ?_
      refine lv_iload_n hx hb d_Md_serve_48 rfl (lv_at hl 1 rfl) ?_
      obtain ⟨j8, ej8, h_j8, h⟩ := h
      refine x_iald hx hb hK hP (31) 0 (Nat.le_of_ble_eq_true rfl) eM_rowCount rfl ej8 h_j8 (by decide) d_Md_serve_49 ?_
      refine lv_icmp_ge hx hb d_Md_serve_50 (tgt := 92) rfl (fun hc13 => ?_) (fun hc13 => ?_)
      · have h := h.1 hc13
        exact hk92 _ _ _ _ h _ _ _ (lv_sub hl [0, 1, 2, 3] rfl) hP hS
      · have h := h.2 hc13
        refine lv_aload_n hx hb d_Md_serve_53 rfl (lv_at hl 0 rfl) ?_
        refine gfM_Md_110 C hP d_Md_serve_54 ?_
        refine lv_bipush (v := (6 : Int32)) hx hb d_Md_serve_57 (by decide) ?_
        refine lv_iload_n hx hb d_Md_serve_59 rfl (lv_at hl 1 rfl) ?_
        refine lv_imul hx hb d_Md_serve_60 ?_
        refine lv_iload hx hb d_Md_serve_61 (lv_at hl 4 rfl) ?_
        refine lv_iadd hx hb d_Md_serve_63 ?_
        obtain ⟨j9, ej9, h_j9, h⟩ := h
        refine x_iald hx hb hK hP (30) 0 (Nat.le_of_ble_eq_true rfl) eM_rows rfl ej9 h_j9 (by decide) d_Md_serve_64 ?_
        refine lv_iconst (v := (3 : Int32)) hx hb d_Md_serve_65 (by decide) ?_
        refine lv_iand hx hb d_Md_serve_66 ?_
        refine lv_aload_n hx hb d_Md_serve_67 rfl (lv_at hl 0 rfl) ?_
        refine gfM_Md_110 C hP d_Md_serve_68 ?_
        refine lv_bipush (v := (6 : Int32)) hx hb d_Md_serve_71 (by decide) ?_
        refine lv_iload_n hx hb d_Md_serve_73 rfl (lv_at hl 1 rfl) ?_
        refine lv_imul hx hb d_Md_serve_74 ?_
        refine lv_iload_n hx hb d_Md_serve_75 rfl (lv_at hl 3 rfl) ?_
        refine lv_iadd hx hb d_Md_serve_76 ?_
        obtain ⟨j10, ej10, h_j10, h⟩ := h
        refine x_iald hx hb hK hP (30) 0 (Nat.le_of_ble_eq_true rfl) eM_rows rfl ej10 h_j10 (by decide) d_Md_serve_77 ?_
        refine lv_iconst (v := (3 : Int32)) hx hb d_Md_serve_78 (by decide) ?_
        refine lv_iand hx hb d_Md_serve_79 ?_
        refine lv_icmp_le hx hb d_Md_serve_80 (tgt := 86) rfl (fun hc12 => ?_) (fun hc12 => ?_)
        · have h := h.1 hc12
          exact tJ86 _ ih _ _ _ _ _ h _ _ _ (lv_sub hl [0, 1, 2, 3, 4] rfl) hP hS
        · have h := h.2 hc12
          refine lv_iload hx hb d_Md_serve_83 (lv_at hl 4 rfl) ?_
          refine lv_istore_n hx hb d_Md_serve_85 rfl hl (Nat.le_of_ble_eq_true rfl) (lv' := [(3, .int v4), (0, .ref (Θ (0))), (1, .int p1), (2, .int v2), (4, .int v4)]) rfl (fun ls hl => ?_)
          exact tJ86 _ ih _ _ _ _ _ h _ _ _ (lv_sub hl [1, 2, 3, 0, 4] rfl) hP hS
  have tL147 : ∀ (n : Nat) (v2 : Int32) (v4 : Int32) (I : SI) (J : SJ), p_Md_serve_L147 p1 post n v2 v4 I J → ∀ (H : Heap) (locs : List Loc) (ls : Array Slot), lv_has ls 5 [(0, .ref (Θ (0))), (1, .int p1), (2, .int v2), (4, .int v4)] → va_P D clA (xw 34 Θ (eM Θ κ) I J) H → va_S (xA 34 Θ sz) s.heap H locs → W p l e (headSpec WS rm_Md_serve).room s m args below meth c H locs 0 0 (MQ below (xQv D clA 34 Θ (eM Θ κ) sz post) args s 0 0 (xA 34 Θ sz)) (F0 m 147 ls []) := by
    intro n
    induction n with
    | zero =>
      intro v2 v4 I J h H locs ls hl hP hS
      exact h.elim
    | succ n ih =>
      intro v2 v4 I J h H locs ls hl hP hS
      unfold p_Md_serve_L147 at h
      refine lv_iload hx hb d_Md_serve_147 (lv_at hl 3 rfl) ?_
      refine lv_aload_n hx hb d_Md_serve_149 rfl (lv_at hl 0 rfl) ?_
      refine gfM_Md_113 C hP d_Md_serve_150 ?_
      refine lv_iload_n hx hb d_Md_serve_153 rfl (lv_at hl 1 rfl) ?_
      obtain ⟨j28, ej28, h_j28, h⟩ := h
      refine x_iald hx hb hK hP (31) 0 (Nat.le_of_ble_eq_true rfl) eM_rowCount rfl ej28 h_j28 (by decide) d_Md_serve_154 ?_
      refine lv_icmp_ge hx hb d_Md_serve_155 (tgt := 190) rfl (fun hc39 => ?_) (fun hc39 => ?_)
      · have h := h.1 hc39
        refine lv_aload_n hx hb d_Md_serve_190 rfl (lv_at hl 0 rfl) ?_
        refine lv_iload_n hx hb d_Md_serve_191 rfl (lv_at hl 1 rfl) ?_
        refine lv_bipush (v := (9 : Int32)) hx hb d_Md_serve_192 (by decide) ?_
        refine lv_aload_n hx hb d_Md_serve_194 rfl (lv_at hl 0 rfl) ?_
        refine gfM_Md_104 C hP d_Md_serve_195 ?_
        refine lv_iload_n hx hb d_Md_serve_198 rfl (lv_at hl 1 rfl) ?_
        obtain ⟨j29, ej29, h_j29, h⟩ := h
        refine x_iald hx hb hK hP (28) 0 (Nat.le_of_ble_eq_true rfl) eM_holder rfl ej29 h_j29 (by decide) d_Md_serve_199 ?_
        refine lv_iload_n hx hb d_Md_serve_200 rfl (lv_at hl 1 rfl) ?_
        refine lv_iload_n hx hb d_Md_serve_201 rfl (lv_at hl 2 rfl) ?_
        refine lv_iconst (v := (0 : Int32)) hx hb d_Md_serve_202 (by decide) ?_
        refine x_gi (x_S C hP hS (c_Md_control l D κ hΘ sz (9 : Int32) (I (28) j29) p1 v2 (0 : Int32) I J _ h) q_Md_control k_966 k_965 rfl rfl ⟨Nat.le_of_ble_eq_true rfl, Nat.le_of_ble_eq_true rfl⟩ rfl hl.1 rfl (Nat.le_of_ble_eq_true rfl) d_Md_serve_203) hS (fun r32 I30 J31 h H locs hP hS => ?_)
        refine x_gv (x_V C hP hS (Nat.le_of_ble_eq_true rfl) (eM_Md _ _) rfl (c_Md_inMembersCells l D κ hΘ sz p1 r32 I30 J31 _ h) q_Md_inMembersCells k_1018 sel_Md_inMembersCells k_1016 rfl rfl ⟨Nat.le_of_ble_eq_true rfl, Nat.le_of_ble_eq_true rfl⟩ rfl hl.1 rfl (Nat.le_of_ble_eq_true rfl) d_Md_serve_206) hS (fun I33 J34 h H locs hP hS => ?_)
        exact x_vret hx hb hr hlocks hP hS h d_Md_serve_209
      · have h := h.2 hc39
        refine lv_aload_n hx hb d_Md_serve_158 rfl (lv_at hl 0 rfl) ?_
        refine gfM_Md_110 C hP d_Md_serve_159 ?_
        refine lv_bipush (v := (6 : Int32)) hx hb d_Md_serve_162 (by decide) ?_
        refine lv_iload_n hx hb d_Md_serve_164 rfl (lv_at hl 1 rfl) ?_
        refine lv_imul hx hb d_Md_serve_165 ?_
        refine lv_iload hx hb d_Md_serve_166 (lv_at hl 3 rfl) ?_
        refine lv_iadd hx hb d_Md_serve_168 ?_
        refine lv_aload_n hx hb d_Md_serve_169 rfl (lv_at hl 0 rfl) ?_
        refine gfM_Md_110 C hP d_Md_serve_170 ?_
        refine lv_bipush (v := (6 : Int32)) hx hb d_Md_serve_173 (by decide) ?_
        refine lv_iload_n hx hb d_Md_serve_175 rfl (lv_at hl 1 rfl) ?_
        refine lv_imul hx hb d_Md_serve_176 ?_
        refine lv_iload hx hb d_Md_serve_177 (lv_at hl 3 rfl) ?_
        refine lv_iadd hx hb d_Md_serve_179 ?_
        refine lv_iconst (v := (1 : Int32)) hx hb d_Md_serve_180 (by decide) ?_
        refine lv_iadd hx hb d_Md_serve_181 ?_
        obtain ⟨j35, ej35, h_j35, h⟩ := h
        refine x_iald hx hb hK hP (30) 0 (Nat.le_of_ble_eq_true rfl) eM_rows rfl ej35 h_j35 (by decide) d_Md_serve_182 ?_
        obtain ⟨j36, ej36, h_j36, h⟩ := h
        refine x_iast hx hb hK hΘ hP hS (30) 0 (Nat.le_of_ble_eq_true rfl) eM_rows rfl ej36 h_j36 (by decide) d_Md_serve_183 (fun H locs hP hS => ?_)
        obtain ⟨I37, eI37⟩ : ∃ y, y = xu I (30) j36 (I (30) j35) := ⟨_, rfl⟩
        have hP : va_P D clA (xw 34 Θ (eM Θ κ) I37 J) H := by rw [eI37]; exact hP
        have h := h I37 eI37
        obtain ⟨x38, ex38⟩ : ∃ y : Int32, y = v4 + (1 : Int32) := ⟨_, rfl⟩
        have h := h x38 ex38
        refine lv_iinc (k := 3) (v := x38) hx hb d_Md_serve_184 hl rfl (by rw [ex38]; rfl) (Nat.le_of_ble_eq_true rfl) (lv' := [(4, .int x38), (0, .ref (Θ (0))), (1, .int p1), (2, .int v2)]) rfl (fun ls hl => ?_)
        refine lv_goto hx hb d_Md_serve_187 (tgt := 147) rfl ?_
        exact ih _ _ _ _ h _ _ _ (lv_sub hl [1, 2, 3, 0] rfl) hP hS
  have tJ22 : ∀ (s0 : Int32) (I : SI) (J : SJ), p_Md_serve_22 p1 post s0 I J → ∀ (H : Heap) (locs : List Loc) (ls : Array Slot), lv_has ls 5 [(0, .ref (Θ (0))), (1, .int p1)] → va_P D clA (xw 34 Θ (eM Θ κ) I J) H → va_S (xA 34 Θ sz) s.heap H locs → W p l e (headSpec WS rm_Md_serve).room s m args below meth c H locs 0 0 (MQ below (xQv D clA 34 Θ (eM Θ κ) sz post) args s 0 0 (xA 34 Θ sz)) (F0 m 22 ls [.int s0]) := by
    intro s0 I J h H locs ls hl hP hS
    unfold p_Md_serve_22 at h
    refine lv_istore_n hx hb d_Md_serve_22 rfl hl (Nat.le_of_ble_eq_true rfl) (lv' := [(2, .int s0), (0, .ref (Θ (0))), (1, .int p1)]) rfl (fun ls hl => ?_)
    refine lv_aload_n hx hb d_Md_serve_23 rfl (lv_at hl 1 rfl) ?_
    refine gfM_Md_113 C hP d_Md_serve_24 ?_
    refine lv_iload_n hx hb d_Md_serve_27 rfl (lv_at hl 2 rfl) ?_
    obtain ⟨j5, ej5, h_j5, h⟩ := h
    refine x_iald hx hb hK hP (31) 0 (Nat.le_of_ble_eq_true rfl) eM_rowCount rfl ej5 h_j5 (by decide) d_Md_serve_28 ?_
    refine lv_if_eq hx hb d_Md_serve_29 (tgt := 36) rfl (fun hc43 => ?_) (fun hc43 => ?_)
    · have h := h.1 hc43
      exact x_vret hx hb hr hlocks hP hS h d_Md_serve_36
    · have h := h.2 hc43
      refine lv_iload_n hx hb d_Md_serve_32 rfl (lv_at hl 0 rfl) ?_
      refine lv_if_ne hx hb d_Md_serve_33 (tgt := 37) rfl (fun hc42 => ?_) (fun hc42 => ?_)
      · have h := h.1 hc42
        refine lv_iconst (v := (0 : Int32)) hx hb d_Md_serve_37 (by decide) ?_
        refine lv_topi (fun x6 ex6 => ?_)
        have h := h x6 ex6
        refine lv_istore_n hx hb d_Md_serve_38 rfl hl (Nat.le_of_ble_eq_true rfl) (lv' := [(3, .int x6), (2, .int s0), (0, .ref (Θ (0))), (1, .int p1)]) rfl (fun ls hl => ?_)
        refine lv_iconst (v := (1 : Int32)) hx hb d_Md_serve_39 (by decide) ?_
        refine lv_topi (fun x7 ex7 => ?_)
        have h := h x7 ex7
        refine lv_istore hx hb d_Md_serve_40 hl (Nat.le_of_ble_eq_true rfl) (lv' := [(4, .int x7), (3, .int x6), (2, .int s0), (0, .ref (Θ (0))), (1, .int p1)]) rfl (fun ls hl => ?_)
        obtain ⟨n41, h⟩ := h
        refine tL42 _ ?_ n41 _ _ _ _ _ h _ _ _ (lv_sub hl [3, 4, 2, 1, 0] rfl) hP hS
        · intro z14 z15 I16 J17 h H locs ls hl hP hS
          refine lv_aload_n hx hb d_Md_serve_92 rfl (lv_at hl 0 rfl) ?_
          refine gfM_Md_101 C hP d_Md_serve_93 ?_
          refine lv_iload_n hx hb d_Md_serve_96 rfl (lv_at hl 1 rfl) ?_
          refine lv_iload_n hx hb d_Md_serve_97 rfl (lv_at hl 2 rfl) ?_
          obtain ⟨j18, ej18, h_j18, h⟩ := h
          refine x_iast hx hb hK hΘ hP hS (27) 0 (Nat.le_of_ble_eq_true rfl) eM_callChannel rfl ej18 h_j18 (by decide) d_Md_serve_98 (fun H locs hP hS => ?_)
          obtain ⟨I19, eI19⟩ : ∃ y, y = xu I16 (27) j18 z14 := ⟨_, rfl⟩
          have hP : va_P D clA (xw 34 Θ (eM Θ κ) I19 J17) H := by rw [eI19]; exact hP
          have h := h I19 eI19
          refine lv_aload_n hx hb d_Md_serve_99 rfl (lv_at hl 0 rfl) ?_
          refine gfM_Md_104 C hP d_Md_serve_100 ?_
          refine lv_iload_n hx hb d_Md_serve_103 rfl (lv_at hl 1 rfl) ?_
          refine lv_aload_n hx hb d_Md_serve_104 rfl (lv_at hl 0 rfl) ?_
          refine gfM_Md_110 C hP d_Md_serve_105 ?_
          refine lv_bipush (v := (6 : Int32)) hx hb d_Md_serve_108 (by decide) ?_
          refine lv_iload_n hx hb d_Md_serve_110 rfl (lv_at hl 1 rfl) ?_
          refine lv_imul hx hb d_Md_serve_111 ?_
          refine lv_iload_n hx hb d_Md_serve_112 rfl (lv_at hl 3 rfl) ?_
          refine lv_iadd hx hb d_Md_serve_113 ?_
          obtain ⟨j20, ej20, h_j20, h⟩ := h
          refine x_iald hx hb hK hP (30) 0 (Nat.le_of_ble_eq_true rfl) eM_rows rfl ej20 h_j20 (by decide) d_Md_serve_114 ?_
          refine lv_iconst (v := (2 : Int32)) hx hb d_Md_serve_115 (by decide) ?_
          refine lv_ishr hx hb d_Md_serve_116 ?_
          obtain ⟨j21, ej21, h_j21, h⟩ := h
          refine x_iast hx hb hK hΘ hP hS (28) 0 (Nat.le_of_ble_eq_true rfl) eM_holder rfl ej21 h_j21 (by decide) d_Md_serve_117 (fun H locs hP hS => ?_)
          obtain ⟨I22, eI22⟩ : ∃ y, y = xu I19 (28) j21 (xsr (I19 (30) j20) (2 : Int32)) := ⟨_, rfl⟩
          have hP : va_P D clA (xw 34 Θ (eM Θ κ) I22 J17) H := by rw [eI22]; exact hP
          have h := h I22 eI22
          refine lv_aload_n hx hb d_Md_serve_118 rfl (lv_at hl 0 rfl) ?_
          refine gfM_Md_107 C hP d_Md_serve_119 ?_
          refine lv_iload_n hx hb d_Md_serve_122 rfl (lv_at hl 1 rfl) ?_
          refine lv_aload_n hx hb d_Md_serve_123 rfl (lv_at hl 0 rfl) ?_
          refine gfM_Md_122 C hP d_Md_serve_124 ?_
          refine lv_iconst (v := (4 : Int32)) hx hb d_Md_serve_127 (by decide) ?_
          refine lv_idiv hx hb d_Md_serve_128 (by decide) ?_
          obtain ⟨j23, ej23, h_j23, h⟩ := h
          refine x_iast hx hb hK hΘ hP hS (29) 0 (Nat.le_of_ble_eq_true rfl) eM_since rfl ej23 h_j23 (by decide) d_Md_serve_129 (fun H locs hP hS => ?_)
          obtain ⟨I24, eI24⟩ : ∃ y, y = xu I22 (29) j23 ((I22 0 36) / (4 : Int32)) := ⟨_, rfl⟩
          have hP : va_P D clA (xw 34 Θ (eM Θ κ) I24 J17) H := by rw [eI24]; exact hP
          have h := h I24 eI24
          refine lv_aload_n hx hb d_Md_serve_130 rfl (lv_at hl 0 rfl) ?_
          refine gfM_Md_113 C hP d_Md_serve_131 ?_
          refine lv_iload_n hx hb d_Md_serve_134 rfl (lv_at hl 1 rfl) ?_
          refine lv_aload_n hx hb d_Md_serve_135 rfl (lv_at hl 0 rfl) ?_
          refine gfM_Md_113 C hP d_Md_serve_136 ?_
          refine lv_iload_n hx hb d_Md_serve_139 rfl (lv_at hl 1 rfl) ?_
          obtain ⟨j25, ej25, h_j25, h⟩ := h
          refine x_iald hx hb hK hP (31) 0 (Nat.le_of_ble_eq_true rfl) eM_rowCount rfl ej25 h_j25 (by decide) d_Md_serve_140 ?_
          refine lv_iconst (v := (1 : Int32)) hx hb d_Md_serve_141 (by decide) ?_
          refine lv_isub hx hb d_Md_serve_142 ?_
          obtain ⟨j26, ej26, h_j26, h⟩ := h
          refine x_iast hx hb hK hΘ hP hS (31) 0 (Nat.le_of_ble_eq_true rfl) eM_rowCount rfl ej26 h_j26 (by decide) d_Md_serve_143 (fun H locs hP hS => ?_)
          obtain ⟨I27, eI27⟩ : ∃ y, y = xu I24 (31) j26 ((I24 (31) j25) - (1 : Int32)) := ⟨_, rfl⟩
          have hP : va_P D clA (xw 34 Θ (eM Θ κ) I27 J17) H := by rw [eI27]; exact hP
          have h := h I27 eI27
          refine lv_iload_n hx hb d_Md_serve_144 rfl (lv_at hl 3 rfl) ?_
          refine lv_istore hx hb d_Md_serve_145 hl (Nat.le_of_ble_eq_true rfl) (lv' := [(4, .int z15), (0, .ref (Θ (0))), (1, .int p1), (2, .int z14), (3, .int z15)]) rfl (fun ls hl => ?_)
          obtain ⟨n40, h⟩ := h
          refine tL147 n40 _ _ _ _ h _ _ _ (lv_sub hl [1, 2, 3, 0] rfl) hP hS
      · have h := h.2 hc42
        exact x_vret hx hb hr hlocks hP hS h d_Md_serve_36
  have hE := lg_entry_eq m [.ref (Θ (0)), .int p1] 5
  rw [← hargs] at hE
  rw [hE]
  have hl := lv_entry [.ref (Θ (0)), .int p1] (n := 5) (Nat.le_of_ble_eq_true rfl)
  generalize (lg_sl [.ref (Θ (0)), .int p1] ++ List.replicate (5 - (lg_sl [.ref (Θ (0)), .int p1]).length) Slot.unset).toArray = ls at hl ⊢
  have hl : lv_has ls 5 [(0, .ref (Θ (0))), (1, .int p1)] := hl
  unfold p_Md_serve at h
  refine lv_aload_n hx hb d_Md_serve_0 rfl (lv_at hl 0 rfl) ?_
  refine gfM_Md_101 C hP d_Md_serve_1 ?_
  refine lv_iload_n hx hb d_Md_serve_4 rfl (lv_at hl 1 rfl) ?_
  obtain ⟨j1, ej1, h_j1, h⟩ := h
  refine x_iald hx hb hK hP (27) 0 (Nat.le_of_ble_eq_true rfl) eM_callChannel rfl ej1 h_j1 (by decide) d_Md_serve_5 ?_
  refine lv_if_le hx hb d_Md_serve_6 (tgt := 18) rfl (fun hc45 => ?_) (fun hc45 => ?_)
  · have h := h.1 hc45
    refine lv_aload_n hx hb d_Md_serve_18 rfl (lv_at hl 0 rfl) ?_
    refine x_gi (x_V C hP hS (Nat.le_of_ble_eq_true rfl) (eM_Md _ _) rfl (c_Md_freeChannel l D κ hΘ sz I J _ h) q_Md_freeChannel k_1014 sel_Md_freeChannel k_1012 rfl rfl ⟨Nat.le_of_ble_eq_true rfl, Nat.le_of_ble_eq_true rfl⟩ rfl hl.1 rfl (Nat.le_of_ble_eq_true rfl) d_Md_serve_19) hS (fun r4 I2 J3 h H locs hP hS => ?_)
    exact tJ22 _ _ _ h _ _ _ (lv_sub hl [0, 1] rfl) hP hS
  · have h := h.2 hc45
    refine lv_aload_n hx hb d_Md_serve_9 rfl (lv_at hl 0 rfl) ?_
    refine gfM_Md_101 C hP d_Md_serve_10 ?_
    refine lv_iload_n hx hb d_Md_serve_13 rfl (lv_at hl 1 rfl) ?_
    obtain ⟨j44, ej44, h_j44, h⟩ := h
    refine x_iald hx hb hK hP (27) 0 (Nat.le_of_ble_eq_true rfl) eM_callChannel rfl ej44 h_j44 (by decide) d_Md_serve_14 ?_
    refine lv_goto hx hb d_Md_serve_15 (tgt := 22) rfl ?_
    exact tJ22 _ _ _ h _ _ _ (lv_sub hl [0, 1] rfl) hP hS
set_option maxHeartbeats 4000000 in
set_option maxRecDepth 100000 in
theorem c_Md_releaseCall (l : Launch) (D : va_G) (κ : Nat → ClassId) {Θ : Nat → Nat} (hΘ : xJ 34 Θ) (sz : Nat) (p1 : Int32) (I : SI) (J : SJ) (post : SI → SJ → Prop) (h : p_Md_releaseCall p1 post I J) : Met l y_Md_releaseCall WS rm_Md_releaseCall (va_Pc [.ref (Θ (0)), .int p1] (xPR D clA (tysA κ) 34 Θ (eM Θ κ) sz I J)) (xQv D clA 34 Θ (eM Θ κ) sz post) 0 0 (xA 34 Θ sz) := by
  refine xMet (cc := b_Md_releaseCall) (maxL := 4) (ret := none) (by decide) q_Md_releaseCall.1 ?_
  intro p e s m args below meth c s₁ B hml hv
  obtain ⟨hargs, hsz, hP, hK, hN, hG⟩ := hv
  have hx := B.exec
  have hb := B.bytes
  have hr := B.returns
  have hlocks := B.notSynchronized
  have hts := atoms_spec (ws := WS) B.pre
  have hown : s.vm.findClass R_Md = some m.cls := findClass_of_methodNamed B.named
  have C : xC p m c b_Md_releaseCall 4 s args R_Md D clA (tysA κ) 34 Θ sz := ⟨⟨hx, hb, hml, hown, hts⟩, hK, hN, hG, hsz⟩
  have hS : va_S (xA 34 Θ sz) s.heap s.heap [] := va_S.rf
  have tJ64 : ∀ (k45 : Int32 → SI → SJ → Prop), (∀ (v3 : Int32) (I : SI) (J : SJ), k45 v3 I J → ∀ (H : Heap) (locs : List Loc) (ls : Array Slot), lv_has ls 4 [(0, .ref (Θ (0))), (3, .int v3)] → va_P D clA (xw 34 Θ (eM Θ κ) I J) H → va_S (xA 34 Θ sz) s.heap H locs → W p l e (headSpec WS rm_Md_releaseCall).room s m args below meth c H locs 0 0 (MQ below (xQv D clA 34 Θ (eM Θ κ) sz post) args s 0 0 (xA 34 Θ sz)) (F0 m 45 ls [])) → ∀ (v3 : Int32) (I : SI) (J : SJ), p_Md_releaseCall_64 p1 post k45 v3 I J → ∀ (H : Heap) (locs : List Loc) (ls : Array Slot), lv_has ls 4 [(0, .ref (Θ (0))), (3, .int v3)] → va_P D clA (xw 34 Θ (eM Θ κ) I J) H → va_S (xA 34 Θ sz) s.heap H locs → W p l e (headSpec WS rm_Md_releaseCall).room s m args below meth c H locs 0 0 (MQ below (xQv D clA 34 Θ (eM Θ κ) sz post) args s 0 0 (xA 34 Θ sz)) (F0 m 64 ls []) := by
    intro k45 hk45 v3 I J h H locs ls hl hP hS
    unfold p_Md_releaseCall_64 at h
    obtain ⟨x13, ex13⟩ : ∃ y : Int32, y = v3 + (1 : Int32) := ⟨_, rfl⟩
    have h := h x13 ex13
    refine lv_iinc (k := 1) (v := x13) hx hb d_Md_releaseCall_64 hl rfl (by rw [ex13]; rfl) (Nat.le_of_ble_eq_true rfl) (lv' := [(3, .int x13), (0, .ref (Θ (0)))]) rfl (fun ls hl => ?_)
    refine lv_goto hx hb d_Md_releaseCall_67 (tgt := 45) rfl ?_
    exact hk45 _ _ _ h _ _ _ (lv_sub hl [1, 0] rfl) hP hS
  have tL45 : ∀ (n : Nat) (v3 : Int32) (I : SI) (J : SJ), p_Md_releaseCall_L45 p1 post n v3 I J → ∀ (H : Heap) (locs : List Loc) (ls : Array Slot), lv_has ls 4 [(0, .ref (Θ (0))), (3, .int v3)] → va_P D clA (xw 34 Θ (eM Θ κ) I J) H → va_S (xA 34 Θ sz) s.heap H locs → W p l e (headSpec WS rm_Md_releaseCall).room s m args below meth c H locs 0 0 (MQ below (xQv D clA 34 Θ (eM Θ κ) sz post) args s 0 0 (xA 34 Θ sz)) (F0 m 45 ls []) := by
    intro n
    induction n with
    | zero =>
      intro v3 I J h H locs ls hl hP hS
      exact h.elim
    | succ n ih =>
      intro v3 I J h H locs ls hl hP hS
      unfold p_Md_releaseCall_L45 at h
      refine lv_iload_n hx hb d_Md_releaseCall_45 rfl (lv_at hl 1 rfl) ?_
      refine lv_iconst (v := (4 : Int32)) hx hb d_Md_releaseCall_46 (by decide) ?_
      refine lv_icmp_ge hx hb d_Md_releaseCall_47 (tgt := 70) rfl (fun hc17 => ?_) (fun hc17 => ?_)
      · have h := h.1 hc17
        exact x_vret hx hb hr hlocks hP hS h d_Md_releaseCall_70
      · have h := h.2 hc17
        refine lv_aload_n hx hb d_Md_releaseCall_50 rfl (lv_at hl 0 rfl) ?_
        refine gfM_Md_101 C hP d_Md_releaseCall_51 ?_
        refine lv_iload_n hx hb d_Md_releaseCall_54 rfl (lv_at hl 1 rfl) ?_
        obtain ⟨j12, ej12, h_j12, h⟩ := h
        refine x_iald hx hb hK hP (27) 0 (Nat.le_of_ble_eq_true rfl) eM_callChannel rfl ej12 h_j12 (by decide) d_Md_releaseCall_55 ?_
        refine lv_if_ne hx hb d_Md_releaseCall_56 (tgt := 64) rfl (fun hc16 => ?_) (fun hc16 => ?_)
        · have h := h.1 hc16
          exact tJ64 _ ih _ _ _ h _ _ _ (lv_sub hl [0, 1] rfl) hP hS
        · have h := h.2 hc16
          refine lv_aload_n hx hb d_Md_releaseCall_59 rfl (lv_at hl 0 rfl) ?_
          refine lv_iload_n hx hb d_Md_releaseCall_60 rfl (lv_at hl 1 rfl) ?_
          refine x_gv (x_V C hP hS (Nat.le_of_ble_eq_true rfl) (eM_Md _ _) rfl (c_Md_serve l D κ hΘ sz v3 I J _ h) q_Md_serve k_1010 sel_Md_serve k_1008 rfl rfl ⟨Nat.le_of_ble_eq_true rfl, Nat.le_of_ble_eq_true rfl⟩ rfl hl.1 rfl (Nat.le_of_ble_eq_true rfl) d_Md_releaseCall_61) hS (fun I14 J15 h H locs hP hS => ?_)
          exact tJ64 _ ih _ _ _ h _ _ _ (lv_sub hl [0, 1] rfl) hP hS
  have hE := lg_entry_eq m [.ref (Θ (0)), .int p1] 4
  rw [← hargs] at hE
  rw [hE]
  have hl := lv_entry [.ref (Θ (0)), .int p1] (n := 4) (Nat.le_of_ble_eq_true rfl)
  generalize (lg_sl [.ref (Θ (0)), .int p1] ++ List.replicate (4 - (lg_sl [.ref (Θ (0)), .int p1]).length) Slot.unset).toArray = ls at hl ⊢
  have hl : lv_has ls 4 [(0, .ref (Θ (0))), (1, .int p1)] := hl
  unfold p_Md_releaseCall at h
  refine lv_aload_n hx hb d_Md_releaseCall_0 rfl (lv_at hl 0 rfl) ?_
  refine gfM_Md_113 C hP d_Md_releaseCall_1 ?_
  refine lv_iload_n hx hb d_Md_releaseCall_4 rfl (lv_at hl 1 rfl) ?_
  obtain ⟨j1, ej1, h_j1, h⟩ := h
  refine x_iald hx hb hK hP (31) 0 (Nat.le_of_ble_eq_true rfl) eM_rowCount rfl ej1 h_j1 (by decide) d_Md_releaseCall_5 ?_
  refine lv_if_le hx hb d_Md_releaseCall_6 (tgt := 15) rfl (fun hc21 => ?_) (fun hc21 => ?_)
  · have h := h.1 hc21
    refine lv_aload_n hx hb d_Md_releaseCall_15 rfl (lv_at hl 0 rfl) ?_
    refine gfM_Md_101 C hP d_Md_releaseCall_16 ?_
    refine lv_iload_n hx hb d_Md_releaseCall_19 rfl (lv_at hl 1 rfl) ?_
    obtain ⟨j2, ej2, h_j2, h⟩ := h
    refine x_iald hx hb hK hP (27) 0 (Nat.le_of_ble_eq_true rfl) eM_callChannel rfl ej2 h_j2 (by decide) d_Md_releaseCall_20 ?_
    refine lv_topi (fun x3 ex3 => ?_)
    have h := h x3 ex3
    refine lv_istore_n hx hb d_Md_releaseCall_21 rfl hl (Nat.le_of_ble_eq_true rfl) (lv' := [(2, .int x3), (0, .ref (Θ (0))), (1, .int p1)]) rfl (fun ls hl => ?_)
    refine lv_aload_n hx hb d_Md_releaseCall_22 rfl (lv_at hl 1 rfl) ?_
    refine gfM_Md_101 C hP d_Md_releaseCall_23 ?_
    refine lv_iload_n hx hb d_Md_releaseCall_26 rfl (lv_at hl 2 rfl) ?_
    refine lv_iconst (v := (0 : Int32)) hx hb d_Md_releaseCall_27 (by decide) ?_
    obtain ⟨j4, ej4, h_j4, h⟩ := h
    refine x_iast hx hb hK hΘ hP hS (27) 0 (Nat.le_of_ble_eq_true rfl) eM_callChannel rfl ej4 h_j4 (by decide) d_Md_releaseCall_28 (fun H locs hP hS => ?_)
    obtain ⟨I5, eI5⟩ : ∃ y, y = xu I (27) j4 (0 : Int32) := ⟨_, rfl⟩
    have hP : va_P D clA (xw 34 Θ (eM Θ κ) I5 J) H := by rw [eI5]; exact hP
    have h := h I5 eI5
    refine lv_aload_n hx hb d_Md_releaseCall_29 rfl (lv_at hl 1 rfl) ?_
    refine lv_iload_n hx hb d_Md_releaseCall_30 rfl (lv_at hl 2 rfl) ?_
    refine lv_bipush (v := (10 : Int32)) hx hb d_Md_releaseCall_31 (by decide) ?_
    refine lv_iconst (v := (0 : Int32)) hx hb d_Md_releaseCall_33 (by decide) ?_
    refine lv_iload_n hx hb d_Md_releaseCall_34 rfl (lv_at hl 2 rfl) ?_
    refine lv_iload_n hx hb d_Md_releaseCall_35 rfl (lv_at hl 0 rfl) ?_
    refine lv_iconst (v := (0 : Int32)) hx hb d_Md_releaseCall_36 (by decide) ?_
    refine x_gi (x_S C hP hS (c_Md_control l D κ hΘ sz (10 : Int32) (0 : Int32) p1 x3 (0 : Int32) I5 J _ h) q_Md_control k_966 k_965 rfl rfl ⟨Nat.le_of_ble_eq_true rfl, Nat.le_of_ble_eq_true rfl⟩ rfl hl.1 rfl (Nat.le_of_ble_eq_true rfl) d_Md_releaseCall_37) hS (fun r8 I6 J7 h H locs hP hS => ?_)
    refine x_gv (x_V C hP hS (Nat.le_of_ble_eq_true rfl) (eM_Md _ _) rfl (c_Md_inMembersCells l D κ hΘ sz p1 r8 I6 J7 _ h) q_Md_inMembersCells k_1018 sel_Md_inMembersCells k_1016 rfl rfl ⟨Nat.le_of_ble_eq_true rfl, Nat.le_of_ble_eq_true rfl⟩ rfl hl.1 rfl (Nat.le_of_ble_eq_true rfl) d_Md_releaseCall_40) hS (fun I9 J10 h H locs hP hS => ?_)
    refine lv_iconst (v := (0 : Int32)) hx hb d_Md_releaseCall_43 (by decide) ?_
    refine lv_topi (fun x11 ex11 => ?_)
    have h := h x11 ex11
    refine lv_istore_n hx hb d_Md_releaseCall_44 rfl hl (Nat.le_of_ble_eq_true rfl) (lv' := [(3, .int x11), (2, .int x3), (0, .ref (Θ (0))), (1, .int p1)]) rfl (fun ls hl => ?_)
    obtain ⟨n18, h⟩ := h
    refine tL45 n18 _ _ _ h _ _ _ (lv_sub hl [2, 0] rfl) hP hS
  · have h := h.2 hc21
    refine lv_aload_n hx hb d_Md_releaseCall_9 rfl (lv_at hl 0 rfl) ?_
    refine lv_iload_n hx hb d_Md_releaseCall_10 rfl (lv_at hl 1 rfl) ?_
    refine x_gv (x_V C hP hS (Nat.le_of_ble_eq_true rfl) (eM_Md _ _) rfl (c_Md_serve l D κ hΘ sz p1 I J _ h) q_Md_serve k_1010 sel_Md_serve k_1008 rfl rfl ⟨Nat.le_of_ble_eq_true rfl, Nat.le_of_ble_eq_true rfl⟩ rfl hl.1 rfl (Nat.le_of_ble_eq_true rfl) d_Md_releaseCall_11) hS (fun I19 J20 h H locs hP hS => ?_)
    exact x_vret hx hb hr hlocks hP hS h d_Md_releaseCall_14
set_option maxHeartbeats 4000000 in
set_option maxRecDepth 100000 in
theorem c_Md_requested (l : Launch) (D : va_G) (κ : Nat → ClassId) {Θ : Nat → Nat} (hΘ : xJ 34 Θ) (sz : Nat) (p1 : Int32) (p2 : Int32) (p3 : Int32) (I : SI) (J : SJ) (post : SI → SJ → Prop) (h : p_Md_requested p1 p2 p3 post I J) : Met l y_Md_requested WS rm_Md_requested (va_Pc [.ref (Θ (0)), .int p1, .int p2, .int p3] (xPR D clA (tysA κ) 34 Θ (eM Θ κ) sz I J)) (xQv D clA 34 Θ (eM Θ κ) sz post) 0 0 (xA 34 Θ sz) := by
  refine xMet (cc := b_Md_requested) (maxL := 6) (ret := none) (by decide) q_Md_requested.1 ?_
  intro p e s m args below meth c s₁ B hml hv
  obtain ⟨hargs, hsz, hP, hK, hN, hG⟩ := hv
  have hx := B.exec
  have hb := B.bytes
  have hr := B.returns
  have hlocks := B.notSynchronized
  have hts := atoms_spec (ws := WS) B.pre
  have hown : s.vm.findClass R_Md = some m.cls := findClass_of_methodNamed B.named
  have C : xC p m c b_Md_requested 6 s args R_Md D clA (tysA κ) 34 Θ sz := ⟨⟨hx, hb, hml, hown, hts⟩, hK, hN, hG, hsz⟩
  have hS : va_S (xA 34 Θ sz) s.heap s.heap [] := va_S.rf
  have tJ75 : ∀ (k43 : Int32 → Int32 → SI → SJ → Prop), (∀ (v4 : Int32) (v5 : Int32) (I : SI) (J : SJ), k43 v4 v5 I J → ∀ (H : Heap) (locs : List Loc) (ls : Array Slot), lv_has ls 6 [(0, .ref (Θ (0))), (1, .int p1), (2, .int p2), (3, .int p3), (4, .int v4), (5, .int v5)] → va_P D clA (xw 34 Θ (eM Θ κ) I J) H → va_S (xA 34 Θ sz) s.heap H locs → W p l e (headSpec WS rm_Md_requested).room s m args below meth c H locs 0 0 (MQ below (xQv D clA 34 Θ (eM Θ κ) sz post) args s 0 0 (xA 34 Θ sz)) (F0 m 43 ls [])) → ∀ (v4 : Int32) (v5 : Int32) (I : SI) (J : SJ), p_Md_requested_75 p1 p2 p3 post k43 v4 v5 I J → ∀ (H : Heap) (locs : List Loc) (ls : Array Slot), lv_has ls 6 [(0, .ref (Θ (0))), (1, .int p1), (2, .int p2), (3, .int p3), (4, .int v4), (5, .int v5)] → va_P D clA (xw 34 Θ (eM Θ κ) I J) H → va_S (xA 34 Θ sz) s.heap H locs → W p l e (headSpec WS rm_Md_requested).room s m args below meth c H locs 0 0 (MQ below (xQv D clA 34 Θ (eM Θ κ) sz post) args s 0 0 (xA 34 Θ sz)) (F0 m 75 ls []) := by
    intro k43 hk43 v4 v5 I J h H locs ls hl hP hS
    unfold p_Md_requested_75 at h
    obtain ⟨x6, ex6⟩ : ∃ y : Int32, y = v5 + (1 : Int32) := ⟨_, rfl⟩
    have h := h x6 ex6
    refine lv_iinc (k := 5) (v := x6) hx hb d_Md_requested_75 hl rfl (by rw [ex6]; rfl) (Nat.le_of_ble_eq_true rfl) (lv' := [(5, .int x6), (0, .ref (Θ (0))), (1, .int p1), (2, .int p2), (3, .int p3), (4, .int v4)]) rfl (fun ls hl => ?_)
    refine lv_goto hx hb d_Md_requested_78 (tgt := 43) rfl ?_
    exact hk43 _ _ _ _ h _ _ _ (lv_sub hl [1, 2, 3, 4, 5, 0] rfl) hP hS
  have tL43 : ∀ (k81 : Int32 → SI → SJ → Prop), (∀ (v4 : Int32) (I : SI) (J : SJ), k81 v4 I J → ∀ (H : Heap) (locs : List Loc) (ls : Array Slot), lv_has ls 6 [(0, .ref (Θ (0))), (1, .int p1), (2, .int p2), (3, .int p3), (4, .int v4)] → va_P D clA (xw 34 Θ (eM Θ κ) I J) H → va_S (xA 34 Θ sz) s.heap H locs → W p l e (headSpec WS rm_Md_requested).room s m args below meth c H locs 0 0 (MQ below (xQv D clA 34 Θ (eM Θ κ) sz post) args s 0 0 (xA 34 Θ sz)) (F0 m 81 ls [])) → ∀ (n : Nat) (v4 : Int32) (v5 : Int32) (I : SI) (J : SJ), p_Md_requested_L43 p1 p2 p3 post k81 n v4 v5 I J → ∀ (H : Heap) (locs : List Loc) (ls : Array Slot), lv_has ls 6 [(0, .ref (Θ (0))), (1, .int p1), (2, .int p2), (3, .int p3), (4, .int v4), (5, .int v5)] → va_P D clA (xw 34 Θ (eM Θ κ) I J) H → va_S (xA 34 Θ sz) s.heap H locs → W p l e (headSpec WS rm_Md_requested).room s m args below meth c H locs 0 0 (MQ below (xQv D clA 34 Θ (eM Θ κ) sz post) args s 0 0 (xA 34 Θ sz)) (F0 m 43 ls []) := by
    intro k81 hk81 n
    induction n with
    | zero =>
      intro v4 v5 I J h H locs ls hl hP hS
      exact h.elim
    | succ n ih =>
      intro v4 v5 I J h H locs ls hl hP hS
      unfold p_Md_requested_L43 at h
      refine lv_iload hx hb d_Md_requested_43 (lv_at hl 5 rfl) ?_
      refine lv_aload_n hx hb d_Md_requested_45 rfl (lv_at hl 0 rfl) ?_
      refine gfM_Md_113 C hP d_Md_requested_46 ?_
      refine lv_iload_n hx hb d_Md_requested_49 rfl (lv_at hl 2 rfl) ?_
      obtain ⟨j4, ej4, h_j4, h⟩ := h
      refine x_iald hx hb hK hP (31) 0 (Nat.le_of_ble_eq_true rfl) eM_rowCount rfl ej4 h_j4 (by decide) d_Md_requested_50 ?_
      refine lv_icmp_ge hx hb d_Md_requested_51 (tgt := 81) rfl (fun hc9 => ?_) (fun hc9 => ?_)
      · have h := h.1 hc9
        exact hk81 _ _ _ h _ _ _ (lv_sub hl [0, 1, 2, 3, 4] rfl) hP hS
      · have h := h.2 hc9
        refine lv_aload_n hx hb d_Md_requested_54 rfl (lv_at hl 0 rfl) ?_
        refine gfM_Md_110 C hP d_Md_requested_55 ?_
        refine lv_bipush (v := (6 : Int32)) hx hb d_Md_requested_58 (by decide) ?_
        refine lv_iload_n hx hb d_Md_requested_60 rfl (lv_at hl 2 rfl) ?_
        refine lv_imul hx hb d_Md_requested_61 ?_
        refine lv_iload hx hb d_Md_requested_62 (lv_at hl 5 rfl) ?_
        refine lv_iadd hx hb d_Md_requested_64 ?_
        obtain ⟨j5, ej5, h_j5, h⟩ := h
        refine x_iald hx hb hK hP (30) 0 (Nat.le_of_ble_eq_true rfl) eM_rows rfl ej5 h_j5 (by decide) d_Md_requested_65 ?_
        refine lv_iconst (v := (2 : Int32)) hx hb d_Md_requested_66 (by decide) ?_
        refine lv_ishr hx hb d_Md_requested_67 ?_
        refine lv_iload_n hx hb d_Md_requested_68 rfl (lv_at hl 1 rfl) ?_
        refine lv_icmp_ne hx hb d_Md_requested_69 (tgt := 75) rfl (fun hc8 => ?_) (fun hc8 => ?_)
        · have h := h.1 hc8
          exact tJ75 _ ih _ _ _ _ h _ _ _ (lv_sub hl [0, 1, 2, 3, 4, 5] rfl) hP hS
        · have h := h.2 hc8
          refine lv_iconst (v := (1 : Int32)) hx hb d_Md_requested_72 (by decide) ?_
          refine lv_topi (fun x7 ex7 => ?_)
          have h := h x7 ex7
          refine lv_istore hx hb d_Md_requested_73 hl (Nat.le_of_ble_eq_true rfl) (lv' := [(4, .int x7), (0, .ref (Θ (0))), (1, .int p1), (2, .int p2), (3, .int p3), (5, .int v5)]) rfl (fun ls hl => ?_)
          exact tJ75 _ ih _ _ _ _ h _ _ _ (lv_sub hl [1, 2, 3, 4, 0, 5] rfl) hP hS
  have tJ132 : ∀ (I : SI) (J : SJ), p_Md_requested_132 p1 p2 p3 post I J → ∀ (H : Heap) (locs : List Loc) (ls : Array Slot), lv_has ls 6 [(0, .ref (Θ (0))), (2, .int p2)] → va_P D clA (xw 34 Θ (eM Θ κ) I J) H → va_S (xA 34 Θ sz) s.heap H locs → W p l e (headSpec WS rm_Md_requested).room s m args below meth c H locs 0 0 (MQ below (xQv D clA 34 Θ (eM Θ κ) sz post) args s 0 0 (xA 34 Θ sz)) (F0 m 132 ls []) := by
    intro I J h H locs ls hl hP hS
    unfold p_Md_requested_132 at h
    refine lv_aload_n hx hb d_Md_requested_132 rfl (lv_at hl 0 rfl) ?_
    refine gfM_Md_101 C hP d_Md_requested_133 ?_
    refine lv_iload_n hx hb d_Md_requested_136 rfl (lv_at hl 1 rfl) ?_
    obtain ⟨j13, ej13, h_j13, h⟩ := h
    refine x_iald hx hb hK hP (27) 0 (Nat.le_of_ble_eq_true rfl) eM_callChannel rfl ej13 h_j13 (by decide) d_Md_requested_137 ?_
    refine lv_if_ne hx hb d_Md_requested_138 (tgt := 146) rfl (fun hc16 => ?_) (fun hc16 => ?_)
    · have h := h.1 hc16
      exact x_vret hx hb hr hlocks hP hS h d_Md_requested_146
    · have h := h.2 hc16
      refine lv_aload_n hx hb d_Md_requested_141 rfl (lv_at hl 0 rfl) ?_
      refine lv_iload_n hx hb d_Md_requested_142 rfl (lv_at hl 1 rfl) ?_
      refine x_gv (x_V C hP hS (Nat.le_of_ble_eq_true rfl) (eM_Md _ _) rfl (c_Md_serve l D κ hΘ sz p2 I J _ h) q_Md_serve k_1010 sel_Md_serve k_1008 rfl rfl ⟨Nat.le_of_ble_eq_true rfl, Nat.le_of_ble_eq_true rfl⟩ rfl hl.1 rfl (Nat.le_of_ble_eq_true rfl) d_Md_requested_143) hS (fun I14 J15 h H locs hP hS => ?_)
      exact x_vret hx hb hr hlocks hP hS h d_Md_requested_146
  have tJ38 : ∀ (s0 : Int32) (I : SI) (J : SJ), p_Md_requested_38 p1 p2 p3 post s0 I J → ∀ (H : Heap) (locs : List Loc) (ls : Array Slot), lv_has ls 6 [(0, .ref (Θ (0))), (1, .int p1), (2, .int p2), (3, .int p3)] → va_P D clA (xw 34 Θ (eM Θ κ) I J) H → va_S (xA 34 Θ sz) s.heap H locs → W p l e (headSpec WS rm_Md_requested).room s m args below meth c H locs 0 0 (MQ below (xQv D clA 34 Θ (eM Θ κ) sz post) args s 0 0 (xA 34 Θ sz)) (F0 m 38 ls [.int s0]) := by
    intro s0 I J h H locs ls hl hP hS
    unfold p_Md_requested_38 at h
    refine lv_istore hx hb d_Md_requested_38 hl (Nat.le_of_ble_eq_true rfl) (lv' := [(4, .int s0), (0, .ref (Θ (0))), (1, .int p1), (2, .int p2), (3, .int p3)]) rfl (fun ls hl => ?_)
    refine lv_iconst (v := (0 : Int32)) hx hb d_Md_requested_40 (by decide) ?_
    refine lv_topi (fun x3 ex3 => ?_)
    have h := h x3 ex3
    refine lv_istore hx hb d_Md_requested_41 hl (Nat.le_of_ble_eq_true rfl) (lv' := [(5, .int x3), (4, .int s0), (0, .ref (Θ (0))), (1, .int p1), (2, .int p2), (3, .int p3)]) rfl (fun ls hl => ?_)
    obtain ⟨n26, h⟩ := h
    refine tL43 _ ?_ n26 _ _ _ _ h _ _ _ (lv_sub hl [2, 3, 4, 5, 1, 0] rfl) hP hS
    · intro z10 I11 J12 h H locs ls hl hP hS
      refine lv_iload hx hb d_Md_requested_81 (lv_at hl 4 rfl) ?_
      refine lv_if_ne hx hb d_Md_requested_83 (tgt := 132) rfl (fun hc25 => ?_) (fun hc25 => ?_)
      · have h := h.1 hc25
        exact tJ132 _ _ h _ _ _ (lv_sub hl [0, 2] rfl) hP hS
      · have h := h.2 hc25
        refine lv_aload_n hx hb d_Md_requested_86 rfl (lv_at hl 0 rfl) ?_
        refine gfM_Md_113 C hP d_Md_requested_87 ?_
        refine lv_iload_n hx hb d_Md_requested_90 rfl (lv_at hl 2 rfl) ?_
        obtain ⟨j17, ej17, h_j17, h⟩ := h
        refine x_iald hx hb hK hP (31) 0 (Nat.le_of_ble_eq_true rfl) eM_rowCount rfl ej17 h_j17 (by decide) d_Md_requested_91 ?_
        refine lv_bipush (v := (6 : Int32)) hx hb d_Md_requested_92 (by decide) ?_
        refine lv_icmp_ge hx hb d_Md_requested_94 (tgt := 132) rfl (fun hc24 => ?_) (fun hc24 => ?_)
        · have h := h.1 hc24
          exact tJ132 _ _ h _ _ _ (lv_sub hl [0, 2] rfl) hP hS
        · have h := h.2 hc24
          refine lv_aload_n hx hb d_Md_requested_97 rfl (lv_at hl 0 rfl) ?_
          refine gfM_Md_110 C hP d_Md_requested_98 ?_
          refine lv_bipush (v := (6 : Int32)) hx hb d_Md_requested_101 (by decide) ?_
          refine lv_iload_n hx hb d_Md_requested_103 rfl (lv_at hl 2 rfl) ?_
          refine lv_imul hx hb d_Md_requested_104 ?_
          refine lv_aload_n hx hb d_Md_requested_105 rfl (lv_at hl 0 rfl) ?_
          refine gfM_Md_113 C hP d_Md_requested_106 ?_
          refine lv_iload_n hx hb d_Md_requested_109 rfl (lv_at hl 2 rfl) ?_
          obtain ⟨j18, ej18, h_j18, h⟩ := h
          refine x_iald hx hb hK hP (31) 0 (Nat.le_of_ble_eq_true rfl) eM_rowCount rfl ej18 h_j18 (by decide) d_Md_requested_110 ?_
          refine lv_iadd hx hb d_Md_requested_111 ?_
          refine lv_iconst (v := (4 : Int32)) hx hb d_Md_requested_112 (by decide) ?_
          refine lv_iload_n hx hb d_Md_requested_113 rfl (lv_at hl 1 rfl) ?_
          refine lv_imul hx hb d_Md_requested_114 ?_
          refine lv_iload_n hx hb d_Md_requested_115 rfl (lv_at hl 3 rfl) ?_
          refine lv_iadd hx hb d_Md_requested_116 ?_
          obtain ⟨j19, ej19, h_j19, h⟩ := h
          refine x_iast hx hb hK hΘ hP hS (30) 0 (Nat.le_of_ble_eq_true rfl) eM_rows rfl ej19 h_j19 (by decide) d_Md_requested_117 (fun H locs hP hS => ?_)
          obtain ⟨I20, eI20⟩ : ∃ y, y = xu I11 (30) j19 (((4 : Int32) * p1) + p3) := ⟨_, rfl⟩
          have hP : va_P D clA (xw 34 Θ (eM Θ κ) I20 J12) H := by rw [eI20]; exact hP
          have h := h I20 eI20
          refine lv_aload_n hx hb d_Md_requested_118 rfl (lv_at hl 0 rfl) ?_
          refine gfM_Md_113 C hP d_Md_requested_119 ?_
          refine lv_iload_n hx hb d_Md_requested_122 rfl (lv_at hl 2 rfl) ?_
          refine lv_aload_n hx hb d_Md_requested_123 rfl (lv_at hl 0 rfl) ?_
          refine gfM_Md_113 C hP d_Md_requested_124 ?_
          refine lv_iload_n hx hb d_Md_requested_127 rfl (lv_at hl 2 rfl) ?_
          obtain ⟨j21, ej21, h_j21, h⟩ := h
          refine x_iald hx hb hK hP (31) 0 (Nat.le_of_ble_eq_true rfl) eM_rowCount rfl ej21 h_j21 (by decide) d_Md_requested_128 ?_
          refine lv_iconst (v := (1 : Int32)) hx hb d_Md_requested_129 (by decide) ?_
          refine lv_iadd hx hb d_Md_requested_130 ?_
          obtain ⟨j22, ej22, h_j22, h⟩ := h
          refine x_iast hx hb hK hΘ hP hS (31) 0 (Nat.le_of_ble_eq_true rfl) eM_rowCount rfl ej22 h_j22 (by decide) d_Md_requested_131 (fun H locs hP hS => ?_)
          obtain ⟨I23, eI23⟩ : ∃ y, y = xu I20 (31) j22 ((I20 (31) j21) + (1 : Int32)) := ⟨_, rfl⟩
          have hP : va_P D clA (xw 34 Θ (eM Θ κ) I23 J12) H := by rw [eI23]; exact hP
          have h := h I23 eI23
          exact tJ132 _ _ h _ _ _ (lv_sub hl [0, 2] rfl) hP hS
  have tJ37 : ∀ (I : SI) (J : SJ), p_Md_requested_37 p1 p2 p3 post I J → ∀ (H : Heap) (locs : List Loc) (ls : Array Slot), lv_has ls 6 [(0, .ref (Θ (0))), (1, .int p1), (2, .int p2), (3, .int p3)] → va_P D clA (xw 34 Θ (eM Θ κ) I J) H → va_S (xA 34 Θ sz) s.heap H locs → W p l e (headSpec WS rm_Md_requested).room s m args below meth c H locs 0 0 (MQ below (xQv D clA 34 Θ (eM Θ κ) sz post) args s 0 0 (xA 34 Θ sz)) (F0 m 37 ls []) := by
    intro I J h H locs ls hl hP hS
    unfold p_Md_requested_37 at h
    refine lv_iconst (v := (0 : Int32)) hx hb d_Md_requested_37 (by decide) ?_
    exact tJ38 _ _ _ h _ _ _ (lv_sub hl [0, 1, 2, 3] rfl) hP hS
  have hE := lg_entry_eq m [.ref (Θ (0)), .int p1, .int p2, .int p3] 6
  rw [← hargs] at hE
  rw [hE]
  have hl := lv_entry [.ref (Θ (0)), .int p1, .int p2, .int p3] (n := 6) (Nat.le_of_ble_eq_true rfl)
  generalize (lg_sl [.ref (Θ (0)), .int p1, .int p2, .int p3] ++ List.replicate (6 - (lg_sl [.ref (Θ (0)), .int p1, .int p2, .int p3]).length) Slot.unset).toArray = ls at hl ⊢
  have hl : lv_has ls 6 [(0, .ref (Θ (0))), (1, .int p1), (2, .int p2), (3, .int p3)] := hl
  unfold p_Md_requested at h
  refine lv_aload_n hx hb d_Md_requested_0 rfl (lv_at hl 0 rfl) ?_
  refine gfM_Md_36 C hP d_Md_requested_1 ?_
  refine lv_iload_n hx hb d_Md_requested_4 rfl (lv_at hl 1 rfl) ?_
  obtain ⟨j1, ej1, h_j1, h⟩ := h
  refine x_iald hx hb hK hP (6) 0 (Nat.le_of_ble_eq_true rfl) eM_groups rfl ej1 h_j1 (by decide) d_Md_requested_5 ?_
  refine lv_iload_n hx hb d_Md_requested_6 rfl (lv_at hl 2 rfl) ?_
  refine lv_ishr hx hb d_Md_requested_7 ?_
  refine lv_iconst (v := (1 : Int32)) hx hb d_Md_requested_8 (by decide) ?_
  refine lv_iand hx hb d_Md_requested_9 ?_
  refine lv_if_ne hx hb d_Md_requested_10 (tgt := 14) rfl (fun hc30 => ?_) (fun hc30 => ?_)
  · have h := h.1 hc30
    refine lv_aload_n hx hb d_Md_requested_14 rfl (lv_at hl 0 rfl) ?_
    refine gfM_Md_101 C hP d_Md_requested_15 ?_
    refine lv_iload_n hx hb d_Md_requested_18 rfl (lv_at hl 2 rfl) ?_
    obtain ⟨j2, ej2, h_j2, h⟩ := h
    refine x_iald hx hb hK hP (27) 0 (Nat.le_of_ble_eq_true rfl) eM_callChannel rfl ej2 h_j2 (by decide) d_Md_requested_19 ?_
    refine lv_if_le hx hb d_Md_requested_20 (tgt := 37) rfl (fun hc29 => ?_) (fun hc29 => ?_)
    · have h := h.1 hc29
      exact tJ37 _ _ h _ _ _ (lv_sub hl [0, 1, 2, 3] rfl) hP hS
    · have h := h.2 hc29
      refine lv_aload_n hx hb d_Md_requested_23 rfl (lv_at hl 0 rfl) ?_
      refine gfM_Md_104 C hP d_Md_requested_24 ?_
      refine lv_iload_n hx hb d_Md_requested_27 rfl (lv_at hl 2 rfl) ?_
      obtain ⟨j27, ej27, h_j27, h⟩ := h
      refine x_iald hx hb hK hP (28) 0 (Nat.le_of_ble_eq_true rfl) eM_holder rfl ej27 h_j27 (by decide) d_Md_requested_28 ?_
      refine lv_iload_n hx hb d_Md_requested_29 rfl (lv_at hl 1 rfl) ?_
      refine lv_icmp_ne hx hb d_Md_requested_30 (tgt := 37) rfl (fun hc28 => ?_) (fun hc28 => ?_)
      · have h := h.1 hc28
        exact tJ37 _ _ h _ _ _ (lv_sub hl [0, 1, 2, 3] rfl) hP hS
      · have h := h.2 hc28
        refine lv_iconst (v := (1 : Int32)) hx hb d_Md_requested_33 (by decide) ?_
        refine lv_goto hx hb d_Md_requested_34 (tgt := 38) rfl ?_
        exact tJ38 _ _ _ h _ _ _ (lv_sub hl [0, 1, 2, 3] rfl) hP hS
  · have h := h.2 hc30
    exact x_vret hx hb hr hlocks hP hS h d_Md_requested_13
set_option maxHeartbeats 4000000 in
set_option maxRecDepth 100000 in
theorem c_Md_switched (l : Launch) (D : va_G) (κ : Nat → ClassId) {Θ : Nat → Nat} (hΘ : xJ 34 Θ) (sz : Nat) (p1 : Int32) (p2 : Int32) (I : SI) (J : SJ) (post : SI → SJ → Prop) (h : p_Md_switched p1 p2 post I J) : Met l y_Md_switched WS rm_Md_switched (va_Pc [.ref (Θ (0)), .int p1, .int p2] (xPR D clA (tysA κ) 34 Θ (eM Θ κ) sz I J)) (xQv D clA 34 Θ (eM Θ κ) sz post) 0 0 (xA 34 Θ sz) := by
  refine xMet (cc := b_Md_switched) (maxL := 9) (ret := none) (by decide) q_Md_switched.1 ?_
  intro p e s m args below meth c s₁ B hml hv
  obtain ⟨hargs, hsz, hP, hK, hN, hG⟩ := hv
  have hx := B.exec
  have hb := B.bytes
  have hr := B.returns
  have hlocks := B.notSynchronized
  have hts := atoms_spec (ws := WS) B.pre
  have hown : s.vm.findClass R_Md = some m.cls := findClass_of_methodNamed B.named
  have C : xC p m c b_Md_switched 9 s args R_Md D clA (tysA κ) 34 Θ sz := ⟨⟨hx, hb, hml, hown, hts⟩, hK, hN, hG, hsz⟩
  have hS : va_S (xA 34 Θ sz) s.heap s.heap [] := va_S.rf
  have hE := lg_entry_eq m [.ref (Θ (0)), .int p1, .int p2] 9
  rw [← hargs] at hE
  rw [hE]
  have hl := lv_entry [.ref (Θ (0)), .int p1, .int p2] (n := 9) (Nat.le_of_ble_eq_true rfl)
  generalize (lg_sl [.ref (Θ (0)), .int p1, .int p2] ++ List.replicate (9 - (lg_sl [.ref (Θ (0)), .int p1, .int p2]).length) Slot.unset).toArray = ls at hl ⊢
  have hl : lv_has ls 9 [(0, .ref (Θ (0))), (1, .int p1), (2, .int p2)] := hl
  unfold p_Md_switched at h
  refine lv_iload_n hx hb d_Md_switched_0 rfl (lv_at hl 2 rfl) ?_
  refine lv_bipush (v := (16 : Int32)) hx hb d_Md_switched_1 (by decide) ?_
  refine lv_ishr hx hb d_Md_switched_3 ?_
  refine lv_topi (fun x1 ex1 => ?_)
  have h := h x1 ex1
  refine lv_istore_n hx hb d_Md_switched_4 rfl hl (Nat.le_of_ble_eq_true rfl) (lv' := [(3, .int x1), (0, .ref (Θ (0))), (1, .int p1), (2, .int p2)]) rfl (fun ls hl => ?_)
  refine lv_iload_n hx hb d_Md_switched_5 rfl (lv_at hl 3 rfl) ?_
  refine lv_bipush (v := (13 : Int32)) hx hb d_Md_switched_6 (by decide) ?_
  refine lv_ishr hx hb d_Md_switched_8 ?_
  refine lv_bipush (v := (7 : Int32)) hx hb d_Md_switched_9 (by decide) ?_
  refine lv_iand hx hb d_Md_switched_11 ?_
  refine lv_topi (fun x2 ex2 => ?_)
  have h := h x2 ex2
  refine lv_istore hx hb d_Md_switched_12 hl (Nat.le_of_ble_eq_true rfl) (lv' := [(4, .int x2), (3, .int x1), (0, .ref (Θ (0))), (1, .int p1), (2, .int p2)]) rfl (fun ls hl => ?_)
  refine lv_iload_n hx hb d_Md_switched_14 rfl (lv_at hl 4 rfl) ?_
  refine lv_bipush (v := (11 : Int32)) hx hb d_Md_switched_15 (by decide) ?_
  refine lv_ishr hx hb d_Md_switched_17 ?_
  refine lv_iconst (v := (3 : Int32)) hx hb d_Md_switched_18 (by decide) ?_
  refine lv_iand hx hb d_Md_switched_19 ?_
  refine lv_topi (fun x3 ex3 => ?_)
  have h := h x3 ex3
  refine lv_istore hx hb d_Md_switched_20 hl (Nat.le_of_ble_eq_true rfl) (lv' := [(5, .int x3), (4, .int x2), (3, .int x1), (0, .ref (Θ (0))), (1, .int p1), (2, .int p2)]) rfl (fun ls hl => ?_)
  refine lv_iload_n hx hb d_Md_switched_22 rfl (lv_at hl 5 rfl) ?_
  refine lv_bipush (v := (9 : Int32)) hx hb d_Md_switched_23 (by decide) ?_
  refine lv_ishr hx hb d_Md_switched_25 ?_
  refine lv_iconst (v := (3 : Int32)) hx hb d_Md_switched_26 (by decide) ?_
  refine lv_iand hx hb d_Md_switched_27 ?_
  refine lv_topi (fun x4 ex4 => ?_)
  have h := h x4 ex4
  refine lv_istore hx hb d_Md_switched_28 hl (Nat.le_of_ble_eq_true rfl) (lv' := [(6, .int x4), (5, .int x3), (4, .int x2), (3, .int x1), (0, .ref (Θ (0))), (1, .int p1), (2, .int p2)]) rfl (fun ls hl => ?_)
  refine lv_iload_n hx hb d_Md_switched_30 rfl (lv_at hl 6 rfl) ?_
  refine lv_sipush (v := (511 : Int32)) hx hb d_Md_switched_31 (by decide) ?_
  refine lv_iand hx hb d_Md_switched_34 ?_
  refine lv_topi (fun x5 ex5 => ?_)
  have h := h x5 ex5
  refine lv_istore hx hb d_Md_switched_35 hl (Nat.le_of_ble_eq_true rfl) (lv' := [(7, .int x5), (6, .int x4), (5, .int x3), (4, .int x2), (3, .int x1), (0, .ref (Θ (0))), (1, .int p1), (2, .int p2)]) rfl (fun ls hl => ?_)
  refine lv_iload_n hx hb d_Md_switched_37 rfl (lv_at hl 4 rfl) ?_
  refine lv_iconst (v := (1 : Int32)) hx hb d_Md_switched_38 (by decide) ?_
  refine lv_icmp_ne hx hb d_Md_switched_39 (tgt := 78) rfl (fun hc28 => ?_) (fun hc28 => ?_)
  · have h := h.1 hc28
    refine lv_aload_n hx hb d_Md_switched_78 rfl (lv_at hl 5 rfl) ?_
    refine gfM_Md_91 C hP d_Md_switched_79 ?_
    refine lv_iload hx hb d_Md_switched_82 (lv_at hl 3 rfl) ?_
    obtain ⟨j6, ej6, h_j6, h⟩ := h
    refine x_iald hx hb hK hP (24) 0 (Nat.le_of_ble_eq_true rfl) eM_registered rfl ej6 h_j6 (by decide) d_Md_switched_84 ?_
    refine lv_iload_n hx hb d_Md_switched_85 rfl (lv_at hl 6 rfl) ?_
    refine lv_icmp_ne hx hb d_Md_switched_86 (tgt := 161) rfl (fun hc20 => ?_) (fun hc20 => ?_)
    · have h := h.1 hc20
      exact x_vret hx hb hr hlocks hP hS h d_Md_switched_161
    · have h := h.2 hc20
      refine lv_iconst (v := (4 : Int32)) hx hb d_Md_switched_89 (by decide) ?_
      refine lv_iload hx hb d_Md_switched_90 (lv_at hl 2 rfl) ?_
      refine lv_imul hx hb d_Md_switched_92 ?_
      refine lv_iload hx hb d_Md_switched_93 (lv_at hl 1 rfl) ?_
      refine lv_iadd hx hb d_Md_switched_95 ?_
      refine lv_topi (fun x7 ex7 => ?_)
      have h := h x7 ex7
      refine lv_istore hx hb d_Md_switched_96 hl (Nat.le_of_ble_eq_true rfl) (lv' := [(8, .int x7), (7, .int x5), (6, .int x4), (5, .int x3), (4, .int x2), (3, .int x1), (0, .ref (Θ (0))), (1, .int p1), (2, .int p2)]) rfl (fun ls hl => ?_)
      refine lv_iload_n hx hb d_Md_switched_98 rfl (lv_at hl 5 rfl) ?_
      refine lv_iconst (v := (2 : Int32)) hx hb d_Md_switched_99 (by decide) ?_
      refine lv_icmp_ne hx hb d_Md_switched_100 (tgt := 116) rfl (fun hc19 => ?_) (fun hc19 => ?_)
      · have h := h.1 hc19
        refine lv_iload hx hb d_Md_switched_116 (lv_at hl 0 rfl) ?_
        refine lv_bipush (v := (8 : Int32)) hx hb d_Md_switched_118 (by decide) ?_
        refine lv_icmp_ge hx hb d_Md_switched_120 (tgt := 161) rfl (fun hc16 => ?_) (fun hc16 => ?_)
        · have h := h.1 hc16
          exact x_vret hx hb hr hlocks hP hS h d_Md_switched_161
        · have h := h.2 hc16
          refine lv_aload_n hx hb d_Md_switched_123 rfl (lv_at hl 6 rfl) ?_
          refine gfM_Md_91 C hP d_Md_switched_124 ?_
          refine lv_iload hx hb d_Md_switched_127 (lv_at hl 0 rfl) ?_
          obtain ⟨j8, ej8, h_j8, h⟩ := h
          refine x_iald hx hb hK hP (24) 0 (Nat.le_of_ble_eq_true rfl) eM_registered rfl ej8 h_j8 (by decide) d_Md_switched_129 ?_
          refine lv_if_lt hx hb d_Md_switched_130 (tgt := 161) rfl (fun hc15 => ?_) (fun hc15 => ?_)
          · have h := h.1 hc15
            exact x_vret hx hb hr hlocks hP hS h d_Md_switched_161
          · have h := h.2 hc15
            refine lv_aload_n hx hb d_Md_switched_133 rfl (lv_at hl 6 rfl) ?_
            refine lv_aload_n hx hb d_Md_switched_134 rfl (lv_at hl 6 rfl) ?_
            refine gfM_Md_91 C hP d_Md_switched_135 ?_
            refine lv_iload hx hb d_Md_switched_138 (lv_at hl 0 rfl) ?_
            obtain ⟨j9, ej9, h_j9, h⟩ := h
            refine x_iald hx hb hK hP (24) 0 (Nat.le_of_ble_eq_true rfl) eM_registered rfl ej9 h_j9 (by decide) d_Md_switched_140 ?_
            refine lv_bipush (v := (11 : Int32)) hx hb d_Md_switched_141 (by decide) ?_
            refine lv_iload hx hb d_Md_switched_143 (lv_at hl 0 rfl) ?_
            refine lv_iload hx hb d_Md_switched_145 (lv_at hl 4 rfl) ?_
            refine lv_iconst (v := (2 : Int32)) hx hb d_Md_switched_147 (by decide) ?_
            refine lv_ishr hx hb d_Md_switched_148 ?_
            refine lv_iload hx hb d_Md_switched_149 (lv_at hl 4 rfl) ?_
            refine lv_iconst (v := (3 : Int32)) hx hb d_Md_switched_151 (by decide) ?_
            refine lv_iand hx hb d_Md_switched_152 ?_
            refine lv_iload hx hb d_Md_switched_153 (lv_at hl 1 rfl) ?_
            refine x_gi (x_S C hP hS (c_Md_control l D κ hΘ sz (11 : Int32) x7 (xsr x2 (2 : Int32)) (x2 &&& (3 : Int32)) x5 I J _ h) q_Md_control k_966 k_965 rfl rfl ⟨Nat.le_of_ble_eq_true rfl, Nat.le_of_ble_eq_true rfl⟩ rfl hl.1 rfl (Nat.le_of_ble_eq_true rfl) d_Md_switched_155) hS (fun r12 I10 J11 h H locs hP hS => ?_)
            refine x_gv (x_V C hP hS (Nat.le_of_ble_eq_true rfl) (eM_Md _ _) rfl (c_Md_toSay l D κ hΘ sz (I (24) j9) r12 I10 J11 _ h) q_Md_toSay k_1022 sel_Md_toSay k_1020 rfl rfl ⟨Nat.le_of_ble_eq_true rfl, Nat.le_of_ble_eq_true rfl⟩ rfl hl.1 rfl (Nat.le_of_ble_eq_true rfl) d_Md_switched_158) hS (fun I13 J14 h H locs hP hS => ?_)
            exact x_vret hx hb hr hlocks hP hS h d_Md_switched_161
      · have h := h.2 hc19
        refine lv_aload_n hx hb d_Md_switched_103 rfl (lv_at hl 6 rfl) ?_
        refine lv_iload hx hb d_Md_switched_104 (lv_at hl 4 rfl) ?_
        refine lv_iload hx hb d_Md_switched_106 (lv_at hl 3 rfl) ?_
        refine lv_iload hx hb d_Md_switched_108 (lv_at hl 2 rfl) ?_
        refine x_gv (x_V C hP hS (Nat.le_of_ble_eq_true rfl) (eM_Md _ _) rfl (c_Md_requested l D κ hΘ sz x2 x3 x4 I J _ h) q_Md_requested k_1006 sel_Md_requested k_1004 rfl rfl ⟨Nat.le_of_ble_eq_true rfl, Nat.le_of_ble_eq_true rfl⟩ rfl hl.1 rfl (Nat.le_of_ble_eq_true rfl) d_Md_switched_110) hS (fun I17 J18 h H locs hP hS => ?_)
        refine lv_goto hx hb d_Md_switched_113 (tgt := 161) rfl ?_
        exact x_vret hx hb hr hlocks hP hS h d_Md_switched_161
  · have h := h.2 hc28
    refine lv_aload_n hx hb d_Md_switched_42 rfl (lv_at hl 5 rfl) ?_
    refine gfM_Md_33 C hP d_Md_switched_43 ?_
    refine lv_iload hx hb d_Md_switched_46 (lv_at hl 3 rfl) ?_
    obtain ⟨j21, ej21, h_j21, h⟩ := h
    refine x_iald hx hb hK hP (5) 0 (Nat.le_of_ble_eq_true rfl) eM_knownKey rfl ej21 h_j21 (by decide) d_Md_switched_48 ?_
    refine lv_aload_n hx hb d_Md_switched_49 rfl (lv_at hl 5 rfl) ?_
    refine gfM_Md_122 C hP d_Md_switched_50 ?_
    refine lv_iconst (v := (4 : Int32)) hx hb d_Md_switched_53 (by decide) ?_
    refine lv_idiv hx hb d_Md_switched_54 (by decide) ?_
    refine x_gi (x_S C hP hS (c_Md_mix l D κ hΘ sz (I (5) j21) ((I 0 36) / (4 : Int32)) I J _ h) q_Md_mix k_961 k_960 rfl rfl ⟨Nat.le_of_ble_eq_true rfl, Nat.le_of_ble_eq_true rfl⟩ rfl hl.1 rfl (Nat.le_of_ble_eq_true rfl) d_Md_switched_55) hS (fun r24 I22 J23 h H locs hP hS => ?_)
    refine lv_sipush (v := (511 : Int32)) hx hb d_Md_switched_58 (by decide) ?_
    refine lv_iand hx hb d_Md_switched_61 ?_
    refine lv_iload hx hb d_Md_switched_62 (lv_at hl 0 rfl) ?_
    refine lv_icmp_ne hx hb d_Md_switched_64 (tgt := 161) rfl (fun hc27 => ?_) (fun hc27 => ?_)
    · have h := h.1 hc27
      exact x_vret hx hb hr hlocks hP hS h d_Md_switched_161
    · have h := h.2 hc27
      refine lv_aload_n hx hb d_Md_switched_67 rfl (lv_at hl 5 rfl) ?_
      refine gfM_Md_91 C hP d_Md_switched_68 ?_
      refine lv_iload hx hb d_Md_switched_71 (lv_at hl 3 rfl) ?_
      refine lv_iload_n hx hb d_Md_switched_73 rfl (lv_at hl 6 rfl) ?_
      obtain ⟨j25, ej25, h_j25, h⟩ := h
      refine x_iast hx hb hK hΘ hP hS (24) 0 (Nat.le_of_ble_eq_true rfl) eM_registered rfl ej25 h_j25 (by decide) d_Md_switched_74 (fun H locs hP hS => ?_)
      obtain ⟨I26, eI26⟩ : ∃ y, y = xu I22 (24) j25 p1 := ⟨_, rfl⟩
      have hP : va_P D clA (xw 34 Θ (eM Θ κ) I26 J23) H := by rw [eI26]; exact hP
      have h := h I26 eI26
      refine lv_goto hx hb d_Md_switched_75 (tgt := 161) rfl ?_
      exact x_vret hx hb hr hlocks hP hS h d_Md_switched_161
set_option maxHeartbeats 4000000 in
set_option maxRecDepth 100000 in
theorem c_Md_noMessage (l : Launch) (D : va_G) (κ : Nat → ClassId) {Θ : Nat → Nat} (hΘ : xJ 34 Θ) (sz : Nat) (p1 : Int32) (I : SI) (J : SJ) (post : SI → SJ → Prop) (h : p_Md_noMessage p1 post I J) : Met l y_Md_noMessage WS rm_Md_noMessage (va_Pc [.ref (Θ (0)), .int p1] (xPR D clA (tysA κ) 34 Θ (eM Θ κ) sz I J)) (xQv D clA 34 Θ (eM Θ κ) sz post) 0 0 (xA 34 Θ sz) := by
  refine xMet (cc := b_Md_noMessage) (maxL := 2) (ret := none) (by decide) q_Md_noMessage.1 ?_
  intro p e s m args below meth c s₁ B hml hv
  obtain ⟨hargs, hsz, hP, hK, hN, hG⟩ := hv
  have hx := B.exec
  have hb := B.bytes
  have hr := B.returns
  have hlocks := B.notSynchronized
  have hts := atoms_spec (ws := WS) B.pre
  have hown : s.vm.findClass R_Md = some m.cls := findClass_of_methodNamed B.named
  have C : xC p m c b_Md_noMessage 2 s args R_Md D clA (tysA κ) 34 Θ sz := ⟨⟨hx, hb, hml, hown, hts⟩, hK, hN, hG, hsz⟩
  have hS : va_S (xA 34 Θ sz) s.heap s.heap [] := va_S.rf
  have hE := lg_entry_eq m [.ref (Θ (0)), .int p1] 2
  rw [← hargs] at hE
  rw [hE]
  have hl := lv_entry [.ref (Θ (0)), .int p1] (n := 2) (Nat.le_of_ble_eq_true rfl)
  generalize (lg_sl [.ref (Θ (0)), .int p1] ++ List.replicate (2 - (lg_sl [.ref (Θ (0)), .int p1]).length) Slot.unset).toArray = ls at hl ⊢
  have hl : lv_has ls 2 [(0, .ref (Θ (0))), (1, .int p1)] := hl
  unfold p_Md_noMessage at h
  refine lv_aload_n hx hb d_Md_noMessage_0 rfl (lv_at hl 0 rfl) ?_
  refine gfM_Md_39 C hP d_Md_noMessage_1 ?_
  refine lv_iload_n hx hb d_Md_noMessage_4 rfl (lv_at hl 1 rfl) ?_
  refine lv_iconst (v := (0 : Int32)) hx hb d_Md_noMessage_5 (by decide) ?_
  obtain ⟨j1, ej1, h_j1, h⟩ := h
  refine x_iast hx hb hK hΘ hP hS (7) 0 (Nat.le_of_ble_eq_true rfl) eM_kind rfl ej1 h_j1 (by decide) d_Md_noMessage_6 (fun H locs hP hS => ?_)
  obtain ⟨I2, eI2⟩ : ∃ y, y = xu I (7) j1 (0 : Int32) := ⟨_, rfl⟩
  have hP : va_P D clA (xw 34 Θ (eM Θ κ) I2 J) H := by rw [eI2]; exact hP
  have h := h I2 eI2
  refine lv_aload_n hx hb d_Md_noMessage_7 rfl (lv_at hl 0 rfl) ?_
  refine gfM_Md_48 C hP d_Md_noMessage_8 ?_
  refine lv_iload_n hx hb d_Md_noMessage_11 rfl (lv_at hl 1 rfl) ?_
  refine lv_iconst (v := (0 : Int32)) hx hb d_Md_noMessage_12 (by decide) ?_
  obtain ⟨j3, ej3, h_j3, h⟩ := h
  refine x_iast hx hb hK hΘ hP hS (10) 0 (Nat.le_of_ble_eq_true rfl) eM_tries rfl ej3 h_j3 (by decide) d_Md_noMessage_13 (fun H locs hP hS => ?_)
  obtain ⟨I4, eI4⟩ : ∃ y, y = xu I2 (10) j3 (0 : Int32) := ⟨_, rfl⟩
  have hP : va_P D clA (xw 34 Θ (eM Θ κ) I4 J) H := by rw [eI4]; exact hP
  have h := h I4 eI4
  refine lv_aload_n hx hb d_Md_noMessage_14 rfl (lv_at hl 0 rfl) ?_
  refine gfM_Md_51 C hP d_Md_noMessage_15 ?_
  refine lv_iload_n hx hb d_Md_noMessage_18 rfl (lv_at hl 1 rfl) ?_
  refine lv_iconst (v := (0 : Int32)) hx hb d_Md_noMessage_19 (by decide) ?_
  obtain ⟨j5, ej5, h_j5, h⟩ := h
  refine x_iast hx hb hK hΘ hP hS (11) 0 (Nat.le_of_ble_eq_true rfl) eM_wait rfl ej5 h_j5 (by decide) d_Md_noMessage_20 (fun H locs hP hS => ?_)
  obtain ⟨I6, eI6⟩ : ∃ y, y = xu I4 (11) j5 (0 : Int32) := ⟨_, rfl⟩
  have hP : va_P D clA (xw 34 Θ (eM Θ κ) I6 J) H := by rw [eI6]; exact hP
  have h := h I6 eI6
  exact x_vret hx hb hr hlocks hP hS h d_Md_noMessage_21
set_option maxHeartbeats 4000000 in
set_option maxRecDepth 100000 in
theorem c_Md_idle (l : Launch) (D : va_G) (κ : Nat → ClassId) {Θ : Nat → Nat} (hΘ : xJ 34 Θ) (sz : Nat) (p1 : Int32) (I : SI) (J : SJ) (post : SI → SJ → Prop) (h : p_Md_idle p1 post I J) : Met l y_Md_idle WS rm_Md_idle (va_Pc [.ref (Θ (0)), .int p1] (xPR D clA (tysA κ) 34 Θ (eM Θ κ) sz I J)) (xQv D clA 34 Θ (eM Θ κ) sz post) 0 0 (xA 34 Θ sz) := by
  refine xMet (cc := b_Md_idle) (maxL := 2) (ret := none) (by decide) q_Md_idle.1 ?_
  intro p e s m args below meth c s₁ B hml hv
  obtain ⟨hargs, hsz, hP, hK, hN, hG⟩ := hv
  have hx := B.exec
  have hb := B.bytes
  have hr := B.returns
  have hlocks := B.notSynchronized
  have hts := atoms_spec (ws := WS) B.pre
  have hown : s.vm.findClass R_Md = some m.cls := findClass_of_methodNamed B.named
  have C : xC p m c b_Md_idle 2 s args R_Md D clA (tysA κ) 34 Θ sz := ⟨⟨hx, hb, hml, hown, hts⟩, hK, hN, hG, hsz⟩
  have hS : va_S (xA 34 Θ sz) s.heap s.heap [] := va_S.rf
  have hE := lg_entry_eq m [.ref (Θ (0)), .int p1] 2
  rw [← hargs] at hE
  rw [hE]
  have hl := lv_entry [.ref (Θ (0)), .int p1] (n := 2) (Nat.le_of_ble_eq_true rfl)
  generalize (lg_sl [.ref (Θ (0)), .int p1] ++ List.replicate (2 - (lg_sl [.ref (Θ (0)), .int p1]).length) Slot.unset).toArray = ls at hl ⊢
  have hl : lv_has ls 2 [(0, .ref (Θ (0))), (1, .int p1)] := hl
  unfold p_Md_idle at h
  refine lv_aload_n hx hb d_Md_idle_0 rfl (lv_at hl 0 rfl) ?_
  refine gfM_Md_58 C hP d_Md_idle_1 ?_
  refine lv_iload_n hx hb d_Md_idle_4 rfl (lv_at hl 1 rfl) ?_
  refine lv_iconst (v := (0 : Int32)) hx hb d_Md_idle_5 (by decide) ?_
  obtain ⟨j1, ej1, h_j1, h⟩ := h
  refine x_iast hx hb hK hΘ hP hS (13) 0 (Nat.le_of_ble_eq_true rfl) eM_doing rfl ej1 h_j1 (by decide) d_Md_idle_6 (fun H locs hP hS => ?_)
  obtain ⟨I2, eI2⟩ : ∃ y, y = xu I (13) j1 (0 : Int32) := ⟨_, rfl⟩
  have hP : va_P D clA (xw 34 Θ (eM Θ κ) I2 J) H := by rw [eI2]; exact hP
  have h := h I2 eI2
  exact x_vret hx hb hr hlocks hP hS h d_Md_idle_7
set_option maxHeartbeats 4000000 in
set_option maxRecDepth 100000 in
theorem c_Md_message (l : Launch) (D : va_G) (κ : Nat → ClassId) {Θ : Nat → Nat} (hΘ : xJ 34 Θ) (sz : Nat) (p1 : Int32) (I : SI) (J : SJ) (post : Int32 → SI → SJ → Prop) (h : p_Md_message p1 post I J) : Met l y_Md_message WS rm_Md_message (va_Pc [.ref (Θ (0)), .int p1] (xPR D clA (tysA κ) 34 Θ (eM Θ κ) sz I J)) (xQi D clA 34 Θ (eM Θ κ) sz post) 0 0 (xA 34 Θ sz) := by
  refine xMet (cc := b_Md_message) (maxL := 3) (ret := (some .int)) (by decide) q_Md_message.1 ?_
  intro p e s m args below meth c s₁ B hml hv
  obtain ⟨hargs, hsz, hP, hK, hN, hG⟩ := hv
  have hx := B.exec
  have hb := B.bytes
  have hr := B.returns
  have hlocks := B.notSynchronized
  have hts := atoms_spec (ws := WS) B.pre
  have hown : s.vm.findClass R_Md = some m.cls := findClass_of_methodNamed B.named
  have C : xC p m c b_Md_message 3 s args R_Md D clA (tysA κ) 34 Θ sz := ⟨⟨hx, hb, hml, hown, hts⟩, hK, hN, hG, hsz⟩
  have hS : va_S (xA 34 Θ sz) s.heap s.heap [] := va_S.rf
  have hE := lg_entry_eq m [.ref (Θ (0)), .int p1] 3
  rw [← hargs] at hE
  rw [hE]
  have hl := lv_entry [.ref (Θ (0)), .int p1] (n := 3) (Nat.le_of_ble_eq_true rfl)
  generalize (lg_sl [.ref (Θ (0)), .int p1] ++ List.replicate (3 - (lg_sl [.ref (Θ (0)), .int p1]).length) Slot.unset).toArray = ls at hl ⊢
  have hl : lv_has ls 3 [(0, .ref (Θ (0))), (1, .int p1)] := hl
  unfold p_Md_message at h
  refine lv_aload_n hx hb d_Md_message_0 rfl (lv_at hl 0 rfl) ?_
  refine gfM_Md_39 C hP d_Md_message_1 ?_
  refine lv_iload_n hx hb d_Md_message_4 rfl (lv_at hl 1 rfl) ?_
  obtain ⟨j1, ej1, h_j1, h⟩ := h
  refine x_iald hx hb hK hP (7) 0 (Nat.le_of_ble_eq_true rfl) eM_kind rfl ej1 h_j1 (by decide) d_Md_message_5 ?_
  refine lv_iconst (v := (1 : Int32)) hx hb d_Md_message_6 (by decide) ?_
  refine lv_icmp_ne hx hb d_Md_message_7 (tgt := 32) rfl (fun hc21 => ?_) (fun hc21 => ?_)
  · have h := h.1 hc21
    refine lv_aload_n hx hb d_Md_message_32 rfl (lv_at hl 0 rfl) ?_
    refine gfM_Md_45 C hP d_Md_message_33 ?_
    refine lv_iload_n hx hb d_Md_message_36 rfl (lv_at hl 1 rfl) ?_
    obtain ⟨j2, ej2, h_j2, h⟩ := h
    refine x_iald hx hb hK hP (9) 0 (Nat.le_of_ble_eq_true rfl) eM_rest rfl ej2 h_j2 (by decide) d_Md_message_37 ?_
    refine lv_topi (fun x3 ex3 => ?_)
    have h := h x3 ex3
    refine lv_istore_n hx hb d_Md_message_38 rfl hl (Nat.le_of_ble_eq_true rfl) (lv' := [(2, .int x3), (0, .ref (Θ (0))), (1, .int p1)]) rfl (fun ls hl => ?_)
    refine lv_aload_n hx hb d_Md_message_39 rfl (lv_at hl 1 rfl) ?_
    refine gfM_Md_39 C hP d_Md_message_40 ?_
    refine lv_iload_n hx hb d_Md_message_43 rfl (lv_at hl 2 rfl) ?_
    obtain ⟨j4, ej4, h_j4, h⟩ := h
    refine x_iald hx hb hK hP (7) 0 (Nat.le_of_ble_eq_true rfl) eM_kind rfl ej4 h_j4 (by decide) d_Md_message_44 ?_
    refine lv_iload_n hx hb d_Md_message_45 rfl (lv_at hl 2 rfl) ?_
    refine lv_aload_n hx hb d_Md_message_46 rfl (lv_at hl 1 rfl) ?_
    refine gfM_Md_42 C hP d_Md_message_47 ?_
    refine lv_iload_n hx hb d_Md_message_50 rfl (lv_at hl 2 rfl) ?_
    obtain ⟨j5, ej5, h_j5, h⟩ := h
    refine x_iald hx hb hK hP (8) 0 (Nat.le_of_ble_eq_true rfl) eM_what rfl ej5 h_j5 (by decide) d_Md_message_51 ?_
    refine lv_iconst (v := (2 : Int32)) hx hb d_Md_message_52 (by decide) ?_
    refine lv_ishr hx hb d_Md_message_53 ?_
    refine lv_aload_n hx hb d_Md_message_54 rfl (lv_at hl 1 rfl) ?_
    refine gfM_Md_42 C hP d_Md_message_55 ?_
    refine lv_iload_n hx hb d_Md_message_58 rfl (lv_at hl 2 rfl) ?_
    obtain ⟨j6, ej6, h_j6, h⟩ := h
    refine x_iald hx hb hK hP (8) 0 (Nat.le_of_ble_eq_true rfl) eM_what rfl ej6 h_j6 (by decide) d_Md_message_59 ?_
    refine lv_iconst (v := (3 : Int32)) hx hb d_Md_message_60 (by decide) ?_
    refine lv_iand hx hb d_Md_message_61 ?_
    refine lv_iload_n hx hb d_Md_message_62 rfl (lv_at hl 0 rfl) ?_
    refine x_gi (x_S C hP hS (c_Md_control l D κ hΘ sz (I (7) j4) p1 (xsr (I (8) j5) (2 : Int32)) ((I (8) j6) &&& (3 : Int32)) x3 I J _ h) q_Md_control k_966 k_965 rfl rfl ⟨Nat.le_of_ble_eq_true rfl, Nat.le_of_ble_eq_true rfl⟩ rfl hl.1 rfl (Nat.le_of_ble_eq_true rfl) d_Md_message_63) hS (fun r9 I7 J8 h H locs hP hS => ?_)
    exact x_iret hx hb hr hlocks hP hS h d_Md_message_66
  · have h := h.2 hc21
    refine lv_aload_n hx hb d_Md_message_10 rfl (lv_at hl 0 rfl) ?_
    refine gfM_Md_30 C hP d_Md_message_11 ?_
    refine lv_iload_n hx hb d_Md_message_14 rfl (lv_at hl 1 rfl) ?_
    obtain ⟨j10, ej10, h_j10, h⟩ := h
    refine x_iald hx hb hK hP (4) 0 (Nat.le_of_ble_eq_true rfl) eM_ownKey rfl ej10 h_j10 (by decide) d_Md_message_15 ?_
    refine lv_aload_n hx hb d_Md_message_16 rfl (lv_at hl 0 rfl) ?_
    refine gfM_Md_122 C hP d_Md_message_17 ?_
    refine lv_iconst (v := (4 : Int32)) hx hb d_Md_message_20 (by decide) ?_
    refine lv_idiv hx hb d_Md_message_21 (by decide) ?_
    refine x_gi (x_S C hP hS (c_Md_mix l D κ hΘ sz (I (4) j10) ((I 0 36) / (4 : Int32)) I J _ h) q_Md_mix k_961 k_960 rfl rfl ⟨Nat.le_of_ble_eq_true rfl, Nat.le_of_ble_eq_true rfl⟩ rfl hl.1 rfl (Nat.le_of_ble_eq_true rfl) d_Md_message_22) hS (fun r13 I11 J12 h H locs hP hS => ?_)
    refine lv_sipush (v := (511 : Int32)) hx hb d_Md_message_25 (by decide) ?_
    refine lv_iand hx hb d_Md_message_28 ?_
    refine lv_goto hx hb d_Md_message_29 (tgt := 38) rfl ?_
    refine lv_topi (fun x14 ex14 => ?_)
    have h := h x14 ex14
    refine lv_istore_n hx hb d_Md_message_38 rfl hl (Nat.le_of_ble_eq_true rfl) (lv' := [(2, .int x14), (0, .ref (Θ (0))), (1, .int p1)]) rfl (fun ls hl => ?_)
    refine lv_aload_n hx hb d_Md_message_39 rfl (lv_at hl 1 rfl) ?_
    refine gfM_Md_39 C hP d_Md_message_40 ?_
    refine lv_iload_n hx hb d_Md_message_43 rfl (lv_at hl 2 rfl) ?_
    obtain ⟨j15, ej15, h_j15, h⟩ := h
    refine x_iald hx hb hK hP (7) 0 (Nat.le_of_ble_eq_true rfl) eM_kind rfl ej15 h_j15 (by decide) d_Md_message_44 ?_
    refine lv_iload_n hx hb d_Md_message_45 rfl (lv_at hl 2 rfl) ?_
    refine lv_aload_n hx hb d_Md_message_46 rfl (lv_at hl 1 rfl) ?_
    refine gfM_Md_42 C hP d_Md_message_47 ?_
    refine lv_iload_n hx hb d_Md_message_50 rfl (lv_at hl 2 rfl) ?_
    obtain ⟨j16, ej16, h_j16, h⟩ := h
    refine x_iald hx hb hK hP (8) 0 (Nat.le_of_ble_eq_true rfl) eM_what rfl ej16 h_j16 (by decide) d_Md_message_51 ?_
    refine lv_iconst (v := (2 : Int32)) hx hb d_Md_message_52 (by decide) ?_
    refine lv_ishr hx hb d_Md_message_53 ?_
    refine lv_aload_n hx hb d_Md_message_54 rfl (lv_at hl 1 rfl) ?_
    refine gfM_Md_42 C hP d_Md_message_55 ?_
    refine lv_iload_n hx hb d_Md_message_58 rfl (lv_at hl 2 rfl) ?_
    obtain ⟨j17, ej17, h_j17, h⟩ := h
    refine x_iald hx hb hK hP (8) 0 (Nat.le_of_ble_eq_true rfl) eM_what rfl ej17 h_j17 (by decide) d_Md_message_59 ?_
    refine lv_iconst (v := (3 : Int32)) hx hb d_Md_message_60 (by decide) ?_
    refine lv_iand hx hb d_Md_message_61 ?_
    refine lv_iload_n hx hb d_Md_message_62 rfl (lv_at hl 0 rfl) ?_
    refine x_gi (x_S C hP hS (c_Md_control l D κ hΘ sz (I11 (7) j15) p1 (xsr (I11 (8) j16) (2 : Int32)) ((I11 (8) j17) &&& (3 : Int32)) x14 I11 J12 _ h) q_Md_control k_966 k_965 rfl rfl ⟨Nat.le_of_ble_eq_true rfl, Nat.le_of_ble_eq_true rfl⟩ rfl hl.1 rfl (Nat.le_of_ble_eq_true rfl) d_Md_message_63) hS (fun r20 I18 J19 h H locs hP hS => ?_)
    exact x_iret hx hb hr hlocks hP hS h d_Md_message_66
set_option maxHeartbeats 4000000 in
set_option maxRecDepth 100000 in
theorem c_Md_told (l : Launch) (D : va_G) (κ : Nat → ClassId) {Θ : Nat → Nat} (hΘ : xJ 34 Θ) (sz : Nat) (p1 : Int32) (p2 : Int32) (I : SI) (J : SJ) (post : SI → SJ → Prop) (h : p_Md_told p1 p2 post I J) : Met l y_Md_told WS rm_Md_told (va_Pc [.ref (Θ (0)), .int p1, .int p2] (xPR D clA (tysA κ) 34 Θ (eM Θ κ) sz I J)) (xQv D clA 34 Θ (eM Θ κ) sz post) 0 0 (xA 34 Θ sz) := by
  refine xMet (cc := b_Md_told) (maxL := 8) (ret := none) (by decide) q_Md_told.1 ?_
  intro p e s m args below meth c s₁ B hml hv
  obtain ⟨hargs, hsz, hP, hK, hN, hG⟩ := hv
  have hx := B.exec
  have hb := B.bytes
  have hr := B.returns
  have hlocks := B.notSynchronized
  have hts := atoms_spec (ws := WS) B.pre
  have hown : s.vm.findClass R_Md = some m.cls := findClass_of_methodNamed B.named
  have C : xC p m c b_Md_told 8 s args R_Md D clA (tysA κ) 34 Θ sz := ⟨⟨hx, hb, hml, hown, hts⟩, hK, hN, hG, hsz⟩
  have hS : va_S (xA 34 Θ sz) s.heap s.heap [] := va_S.rf
  have tJ190 : ∀ (v3 : Int32) (v4 : Int32) (v5 : Int32) (v6 : Int32) (I : SI) (J : SJ), p_Md_told_190 p1 p2 post v3 v4 v5 v6 I J → ∀ (H : Heap) (locs : List Loc) (ls : Array Slot), lv_has ls 8 [(0, .ref (Θ (0))), (1, .int p1), (2, .int p2), (3, .int v3), (4, .int v4), (5, .int v5), (6, .int v6)] → va_P D clA (xw 34 Θ (eM Θ κ) I J) H → va_S (xA 34 Θ sz) s.heap H locs → W p l e (headSpec WS rm_Md_told).room s m args below meth c H locs 0 0 (MQ below (xQv D clA 34 Θ (eM Θ κ) sz post) args s 0 0 (xA 34 Θ sz)) (F0 m 190 ls []) := by
    intro v3 v4 v5 v6 I J h H locs ls hl hP hS
    unfold p_Md_told_190 at h
    refine lv_iload_n hx hb d_Md_told_190 rfl (lv_at hl 3 rfl) ?_
    refine lv_bipush (v := (11 : Int32)) hx hb d_Md_told_191 (by decide) ?_
    refine lv_icmp_ne hx hb d_Md_told_193 (tgt := 238) rfl (fun hc11 => ?_) (fun hc11 => ?_)
    · have h := h.1 hc11
      exact x_vret hx hb hr hlocks hP hS h d_Md_told_238
    · have h := h.2 hc11
      refine lv_iload hx hb d_Md_told_196 (lv_at hl 4 rfl) ?_
      refine lv_iload_n hx hb d_Md_told_198 rfl (lv_at hl 1 rfl) ?_
      refine lv_icmp_ne hx hb d_Md_told_199 (tgt := 238) rfl (fun hc10 => ?_) (fun hc10 => ?_)
      · have h := h.1 hc10
        exact x_vret hx hb hr hlocks hP hS h d_Md_told_238
      · have h := h.2 hc10
        refine lv_aload_n hx hb d_Md_told_202 rfl (lv_at hl 0 rfl) ?_
        refine gfM_Md_85 C hP d_Md_told_203 ?_
        refine lv_iload_n hx hb d_Md_told_206 rfl (lv_at hl 1 rfl) ?_
        refine lv_aload_n hx hb d_Md_told_207 rfl (lv_at hl 0 rfl) ?_
        refine gfM_Md_85 C hP d_Md_told_208 ?_
        refine lv_iload_n hx hb d_Md_told_211 rfl (lv_at hl 1 rfl) ?_
        obtain ⟨j5, ej5, h_j5, h⟩ := h
        refine x_iald hx hb hK hP (22) 0 (Nat.le_of_ble_eq_true rfl) eM_got rfl ej5 h_j5 (by decide) d_Md_told_212 ?_
        refine lv_iconst (v := (1 : Int32)) hx hb d_Md_told_213 (by decide) ?_
        refine lv_iadd hx hb d_Md_told_214 ?_
        obtain ⟨j6, ej6, h_j6, h⟩ := h
        refine x_iast hx hb hK hΘ hP hS (22) 0 (Nat.le_of_ble_eq_true rfl) eM_got rfl ej6 h_j6 (by decide) d_Md_told_215 (fun H locs hP hS => ?_)
        obtain ⟨I7, eI7⟩ : ∃ y, y = xu I (22) j6 ((I (22) j5) + (1 : Int32)) := ⟨_, rfl⟩
        have hP : va_P D clA (xw 34 Θ (eM Θ κ) I7 J) H := by rw [eI7]; exact hP
        have h := h I7 eI7
        refine lv_aload_n hx hb d_Md_told_216 rfl (lv_at hl 0 rfl) ?_
        refine gfM_Md_88 C hP d_Md_told_217 ?_
        refine lv_iload_n hx hb d_Md_told_220 rfl (lv_at hl 1 rfl) ?_
        refine lv_bipush (v := (16 : Int32)) hx hb d_Md_told_221 (by decide) ?_
        refine lv_iload_n hx hb d_Md_told_223 rfl (lv_at hl 2 rfl) ?_
        refine lv_sipush (v := (511 : Int32)) hx hb d_Md_told_224 (by decide) ?_
        refine lv_iand hx hb d_Md_told_227 ?_
        refine lv_imul hx hb d_Md_told_228 ?_
        refine lv_iconst (v := (4 : Int32)) hx hb d_Md_told_229 (by decide) ?_
        refine lv_iload hx hb d_Md_told_230 (lv_at hl 5 rfl) ?_
        refine lv_imul hx hb d_Md_told_232 ?_
        refine lv_iadd hx hb d_Md_told_233 ?_
        refine lv_iload hx hb d_Md_told_234 (lv_at hl 6 rfl) ?_
        refine lv_iadd hx hb d_Md_told_236 ?_
        obtain ⟨j8, ej8, h_j8, h⟩ := h
        refine x_iast hx hb hK hΘ hP hS (23) 0 (Nat.le_of_ble_eq_true rfl) eM_gotLast rfl ej8 h_j8 (by decide) d_Md_told_237 (fun H locs hP hS => ?_)
        obtain ⟨I9, eI9⟩ : ∃ y, y = xu I7 (23) j8 ((((16 : Int32) * (p2 &&& (511 : Int32))) + ((4 : Int32) * v5)) + v6) := ⟨_, rfl⟩
        have hP : va_P D clA (xw 34 Θ (eM Θ κ) I9 J) H := by rw [eI9]; exact hP
        have h := h I9 eI9
        exact x_vret hx hb hr hlocks hP hS h d_Md_told_238
  have tJ159 : ∀ (v3 : Int32) (v4 : Int32) (v5 : Int32) (v6 : Int32) (I : SI) (J : SJ), p_Md_told_159 p1 p2 post v3 v4 v5 v6 I J → ∀ (H : Heap) (locs : List Loc) (ls : Array Slot), lv_has ls 8 [(0, .ref (Θ (0))), (1, .int p1), (2, .int p2), (3, .int v3), (4, .int v4), (5, .int v5), (6, .int v6)] → va_P D clA (xw 34 Θ (eM Θ κ) I J) H → va_S (xA 34 Θ sz) s.heap H locs → W p l e (headSpec WS rm_Md_told).room s m args below meth c H locs 0 0 (MQ below (xQv D clA 34 Θ (eM Θ κ) sz post) args s 0 0 (xA 34 Θ sz)) (F0 m 159 ls []) := by
    intro v3 v4 v5 v6 I J h H locs ls hl hP hS
    unfold p_Md_told_159 at h
    refine lv_iload_n hx hb d_Md_told_159 rfl (lv_at hl 3 rfl) ?_
    refine lv_bipush (v := (10 : Int32)) hx hb d_Md_told_160 (by decide) ?_
    refine lv_icmp_ne hx hb d_Md_told_162 (tgt := 190) rfl (fun hc18 => ?_) (fun hc18 => ?_)
    · have h := h.1 hc18
      exact tJ190 _ _ _ _ _ _ h _ _ _ (lv_sub hl [0, 1, 2, 3, 4, 5, 6] rfl) hP hS
    · have h := h.2 hc18
      refine lv_aload_n hx hb d_Md_told_165 rfl (lv_at hl 0 rfl) ?_
      refine gfM_Md_58 C hP d_Md_told_166 ?_
      refine lv_iload_n hx hb d_Md_told_169 rfl (lv_at hl 1 rfl) ?_
      obtain ⟨j12, ej12, h_j12, h⟩ := h
      refine x_iald hx hb hK hP (13) 0 (Nat.le_of_ble_eq_true rfl) eM_doing rfl ej12 h_j12 (by decide) d_Md_told_170 ?_
      refine lv_if_le hx hb d_Md_told_171 (tgt := 190) rfl (fun hc17 => ?_) (fun hc17 => ?_)
      · have h := h.1 hc17
        exact tJ190 _ _ _ _ _ _ h _ _ _ (lv_sub hl [0, 1, 2, 3, 4, 5, 6] rfl) hP hS
      · have h := h.2 hc17
        refine lv_aload_n hx hb d_Md_told_174 rfl (lv_at hl 0 rfl) ?_
        refine gfM_Md_64 C hP d_Md_told_175 ?_
        refine lv_iload_n hx hb d_Md_told_178 rfl (lv_at hl 1 rfl) ?_
        obtain ⟨j13, ej13, h_j13, h⟩ := h
        refine x_iald hx hb hK hP (15) 0 (Nat.le_of_ble_eq_true rfl) eM_inCall rfl ej13 h_j13 (by decide) d_Md_told_179 ?_
        refine lv_iload hx hb d_Md_told_180 (lv_at hl 5 rfl) ?_
        refine lv_icmp_ne hx hb d_Md_told_182 (tgt := 190) rfl (fun hc16 => ?_) (fun hc16 => ?_)
        · have h := h.1 hc16
          exact tJ190 _ _ _ _ _ _ h _ _ _ (lv_sub hl [0, 1, 2, 3, 4, 5, 6] rfl) hP hS
        · have h := h.2 hc16
          refine lv_aload_n hx hb d_Md_told_185 rfl (lv_at hl 0 rfl) ?_
          refine lv_iload_n hx hb d_Md_told_186 rfl (lv_at hl 1 rfl) ?_
          refine x_gv (x_V C hP hS (Nat.le_of_ble_eq_true rfl) (eM_Md _ _) rfl (c_Md_idle l D κ hΘ sz p1 I J _ h) q_Md_idle k_907 sel_Md_idle k_905 rfl rfl ⟨Nat.le_of_ble_eq_true rfl, Nat.le_of_ble_eq_true rfl⟩ rfl hl.1 rfl (Nat.le_of_ble_eq_true rfl) d_Md_told_187) hS (fun I14 J15 h H locs hP hS => ?_)
          exact tJ190 _ _ _ _ _ _ h _ _ _ (lv_sub hl [0, 1, 2, 3, 4, 5, 6] rfl) hP hS
  have tJ142 : ∀ (v3 : Int32) (v4 : Int32) (v5 : Int32) (v6 : Int32) (s0 : Int32) (s1 : Int32) (I : SI) (J : SJ), p_Md_told_142 p1 p2 post v3 v4 v5 v6 s0 s1 I J → ∀ (H : Heap) (locs : List Loc) (ls : Array Slot), lv_has ls 8 [(0, .ref (Θ (0))), (1, .int p1), (2, .int p2), (3, .int v3), (4, .int v4), (5, .int v5), (6, .int v6)] → va_P D clA (xw 34 Θ (eM Θ κ) I J) H → va_S (xA 34 Θ sz) s.heap H locs → W p l e (headSpec WS rm_Md_told).room s m args below meth c H locs 0 0 (MQ below (xQv D clA 34 Θ (eM Θ κ) sz post) args s 0 0 (xA 34 Θ sz)) (F0 m 142 ls [.int s0, .int s1, .ref (Θ (13))]) := by
    intro v3 v4 v5 v6 s0 s1 I J h H locs ls hl hP hS
    unfold p_Md_told_142 at h
    obtain ⟨j20, ej20, h_j20, h⟩ := h
    refine x_iast hx hb hK hΘ hP hS (13) 0 (Nat.le_of_ble_eq_true rfl) eM_doing rfl ej20 h_j20 (by decide) d_Md_told_142 (fun H locs hP hS => ?_)
    obtain ⟨I21, eI21⟩ : ∃ y, y = xu I (13) j20 s0 := ⟨_, rfl⟩
    have hP : va_P D clA (xw 34 Θ (eM Θ κ) I21 J) H := by rw [eI21]; exact hP
    have h := h I21 eI21
    refine lv_aload_n hx hb d_Md_told_143 rfl (lv_at hl 0 rfl) ?_
    refine gfM_Md_61 C hP d_Md_told_144 ?_
    refine lv_iload_n hx hb d_Md_told_147 rfl (lv_at hl 1 rfl) ?_
    refine lv_iload hx hb d_Md_told_148 (lv_at hl 6 rfl) ?_
    obtain ⟨j22, ej22, h_j22, h⟩ := h
    refine x_iast hx hb hK hΘ hP hS (14) 0 (Nat.le_of_ble_eq_true rfl) eM_channel rfl ej22 h_j22 (by decide) d_Md_told_150 (fun H locs hP hS => ?_)
    obtain ⟨I23, eI23⟩ : ∃ y, y = xu I21 (14) j22 v6 := ⟨_, rfl⟩
    have hP : va_P D clA (xw 34 Θ (eM Θ κ) I23 J) H := by rw [eI23]; exact hP
    have h := h I23 eI23
    refine lv_aload_n hx hb d_Md_told_151 rfl (lv_at hl 0 rfl) ?_
    refine gfM_Md_64 C hP d_Md_told_152 ?_
    refine lv_iload_n hx hb d_Md_told_155 rfl (lv_at hl 1 rfl) ?_
    refine lv_iload hx hb d_Md_told_156 (lv_at hl 5 rfl) ?_
    obtain ⟨j24, ej24, h_j24, h⟩ := h
    refine x_iast hx hb hK hΘ hP hS (15) 0 (Nat.le_of_ble_eq_true rfl) eM_inCall rfl ej24 h_j24 (by decide) d_Md_told_158 (fun H locs hP hS => ?_)
    obtain ⟨I25, eI25⟩ : ∃ y, y = xu I23 (15) j24 v5 := ⟨_, rfl⟩
    have hP : va_P D clA (xw 34 Θ (eM Θ κ) I25 J) H := by rw [eI25]; exact hP
    have h := h I25 eI25
    exact tJ159 _ _ _ _ _ _ h _ _ _ (lv_sub hl [0, 1, 2, 3, 4, 5, 6] rfl) hP hS
  have tJ127 : ∀ (v3 : Int32) (v4 : Int32) (v5 : Int32) (v6 : Int32) (v7 : Int32) (I : SI) (J : SJ), p_Md_told_127 p1 p2 post v3 v4 v5 v6 v7 I J → ∀ (H : Heap) (locs : List Loc) (ls : Array Slot), lv_has ls 8 [(0, .ref (Θ (0))), (1, .int p1), (2, .int p2), (3, .int v3), (4, .int v4), (5, .int v5), (6, .int v6), (7, .int v7)] → va_P D clA (xw 34 Θ (eM Θ κ) I J) H → va_S (xA 34 Θ sz) s.heap H locs → W p l e (headSpec WS rm_Md_told).room s m args below meth c H locs 0 0 (MQ below (xQv D clA 34 Θ (eM Θ κ) sz post) args s 0 0 (xA 34 Θ sz)) (F0 m 127 ls []) := by
    intro v3 v4 v5 v6 v7 I J h H locs ls hl hP hS
    unfold p_Md_told_127 at h
    refine lv_aload_n hx hb d_Md_told_127 rfl (lv_at hl 0 rfl) ?_
    refine gfM_Md_58 C hP d_Md_told_128 ?_
    refine lv_iload_n hx hb d_Md_told_131 rfl (lv_at hl 1 rfl) ?_
    refine lv_iload hx hb d_Md_told_132 (lv_at hl 7 rfl) ?_
    refine lv_if_eq hx hb d_Md_told_134 (tgt := 141) rfl (fun hc26 => ?_) (fun hc26 => ?_)
    · have h := h.1 hc26
      refine lv_iconst (v := (2 : Int32)) hx hb d_Md_told_141 (by decide) ?_
      exact tJ142 _ _ _ _ _ _ _ _ h _ _ _ (lv_sub hl [0, 1, 2, 3, 4, 5, 6] rfl) hP hS
    · have h := h.2 hc26
      refine lv_iconst (v := (1 : Int32)) hx hb d_Md_told_137 (by decide) ?_
      refine lv_goto hx hb d_Md_told_138 (tgt := 142) rfl ?_
      exact tJ142 _ _ _ _ _ _ _ _ h _ _ _ (lv_sub hl [0, 1, 2, 3, 4, 5, 6] rfl) hP hS
  have tJ99 : ∀ (v3 : Int32) (v4 : Int32) (v5 : Int32) (v6 : Int32) (s0 : Int32) (I : SI) (J : SJ), p_Md_told_99 p1 p2 post v3 v4 v5 v6 s0 I J → ∀ (H : Heap) (locs : List Loc) (ls : Array Slot), lv_has ls 8 [(0, .ref (Θ (0))), (1, .int p1), (2, .int p2), (3, .int v3), (4, .int v4), (5, .int v5), (6, .int v6)] → va_P D clA (xw 34 Θ (eM Θ κ) I J) H → va_S (xA 34 Θ sz) s.heap H locs → W p l e (headSpec WS rm_Md_told).room s m args below meth c H locs 0 0 (MQ below (xQv D clA 34 Θ (eM Θ κ) sz post) args s 0 0 (xA 34 Θ sz)) (F0 m 99 ls [.int s0]) := by
    intro v3 v4 v5 v6 s0 I J h H locs ls hl hP hS
    unfold p_Md_told_99 at h
    refine lv_istore hx hb d_Md_told_99 hl (Nat.le_of_ble_eq_true rfl) (lv' := [(7, .int s0), (0, .ref (Θ (0))), (1, .int p1), (2, .int p2), (3, .int v3), (4, .int v4), (5, .int v5), (6, .int v6)]) rfl (fun ls hl => ?_)
    refine lv_iload hx hb d_Md_told_101 (lv_at hl 0 rfl) ?_
    refine lv_if_ne hx hb d_Md_told_103 (tgt := 127) rfl (fun hc31 => ?_) (fun hc31 => ?_)
    · have h := h.1 hc31
      exact tJ127 _ _ _ _ _ _ _ h _ _ _ (lv_sub hl [1, 2, 3, 4, 5, 6, 7, 0] rfl) hP hS
    · have h := h.2 hc31
      refine lv_aload_n hx hb d_Md_told_106 rfl (lv_at hl 1 rfl) ?_
      refine gfM_Md_58 C hP d_Md_told_107 ?_
      refine lv_iload_n hx hb d_Md_told_110 rfl (lv_at hl 2 rfl) ?_
      obtain ⟨j27, ej27, h_j27, h⟩ := h
      refine x_iald hx hb hK hP (13) 0 (Nat.le_of_ble_eq_true rfl) eM_doing rfl ej27 h_j27 (by decide) d_Md_told_111 ?_
      refine lv_iconst (v := (1 : Int32)) hx hb d_Md_told_112 (by decide) ?_
      refine lv_icmp_ne hx hb d_Md_told_113 (tgt := 127) rfl (fun hc30 => ?_) (fun hc30 => ?_)
      · have h := h.1 hc30
        exact tJ127 _ _ _ _ _ _ _ h _ _ _ (lv_sub hl [1, 2, 3, 4, 5, 6, 7, 0] rfl) hP hS
      · have h := h.2 hc30
        refine lv_aload_n hx hb d_Md_told_116 rfl (lv_at hl 1 rfl) ?_
        refine gfM_Md_64 C hP d_Md_told_117 ?_
        refine lv_iload_n hx hb d_Md_told_120 rfl (lv_at hl 2 rfl) ?_
        obtain ⟨j28, ej28, h_j28, h⟩ := h
        refine x_iald hx hb hK hP (15) 0 (Nat.le_of_ble_eq_true rfl) eM_inCall rfl ej28 h_j28 (by decide) d_Md_told_121 ?_
        refine lv_iload hx hb d_Md_told_122 (lv_at hl 6 rfl) ?_
        refine lv_icmp_ne hx hb d_Md_told_124 (tgt := 159) rfl (fun hc29 => ?_) (fun hc29 => ?_)
        · have h := h.1 hc29
          exact tJ159 _ _ _ _ _ _ h _ _ _ (lv_sub hl [1, 2, 3, 4, 5, 6, 7] rfl) hP hS
        · have h := h.2 hc29
          exact tJ127 _ _ _ _ _ _ _ h _ _ _ (lv_sub hl [1, 2, 3, 4, 5, 6, 7, 0] rfl) hP hS
  have tJ98 : ∀ (v3 : Int32) (v4 : Int32) (v5 : Int32) (v6 : Int32) (I : SI) (J : SJ), p_Md_told_98 p1 p2 post v3 v4 v5 v6 I J → ∀ (H : Heap) (locs : List Loc) (ls : Array Slot), lv_has ls 8 [(0, .ref (Θ (0))), (1, .int p1), (2, .int p2), (3, .int v3), (4, .int v4), (5, .int v5), (6, .int v6)] → va_P D clA (xw 34 Θ (eM Θ κ) I J) H → va_S (xA 34 Θ sz) s.heap H locs → W p l e (headSpec WS rm_Md_told).room s m args below meth c H locs 0 0 (MQ below (xQv D clA 34 Θ (eM Θ κ) sz post) args s 0 0 (xA 34 Θ sz)) (F0 m 98 ls []) := by
    intro v3 v4 v5 v6 I J h H locs ls hl hP hS
    unfold p_Md_told_98 at h
    refine lv_iconst (v := (0 : Int32)) hx hb d_Md_told_98 (by decide) ?_
    exact tJ99 _ _ _ _ _ _ _ h _ _ _ (lv_sub hl [0, 1, 2, 3, 4, 5, 6] rfl) hP hS
  have tJ56 : ∀ (v3 : Int32) (v4 : Int32) (v5 : Int32) (v6 : Int32) (I : SI) (J : SJ), p_Md_told_56 p1 p2 post v3 v4 v5 v6 I J → ∀ (H : Heap) (locs : List Loc) (ls : Array Slot), lv_has ls 8 [(0, .ref (Θ (0))), (1, .int p1), (2, .int p2), (3, .int v3), (4, .int v4), (5, .int v5), (6, .int v6)] → va_P D clA (xw 34 Θ (eM Θ κ) I J) H → va_S (xA 34 Θ sz) s.heap H locs → W p l e (headSpec WS rm_Md_told).room s m args below meth c H locs 0 0 (MQ below (xQv D clA 34 Θ (eM Θ κ) sz post) args s 0 0 (xA 34 Θ sz)) (F0 m 56 ls []) := by
    intro v3 v4 v5 v6 I J h H locs ls hl hP hS
    unfold p_Md_told_56 at h
    refine lv_iload_n hx hb d_Md_told_56 rfl (lv_at hl 3 rfl) ?_
    refine lv_bipush (v := (9 : Int32)) hx hb d_Md_told_57 (by decide) ?_
    refine lv_icmp_ne hx hb d_Md_told_59 (tgt := 159) rfl (fun hc36 => ?_) (fun hc36 => ?_)
    · have h := h.1 hc36
      exact tJ159 _ _ _ _ _ _ h _ _ _ (lv_sub hl [0, 1, 2, 3, 4, 5, 6] rfl) hP hS
    · have h := h.2 hc36
      refine lv_aload_n hx hb d_Md_told_62 rfl (lv_at hl 0 rfl) ?_
      refine gfM_Md_36 C hP d_Md_told_63 ?_
      refine lv_iload_n hx hb d_Md_told_66 rfl (lv_at hl 1 rfl) ?_
      obtain ⟨j19, ej19, h_j19, h⟩ := h
      refine x_iald hx hb hK hP (6) 0 (Nat.le_of_ble_eq_true rfl) eM_groups rfl ej19 h_j19 (by decide) d_Md_told_67 ?_
      refine lv_iload hx hb d_Md_told_68 (lv_at hl 5 rfl) ?_
      refine lv_ishr hx hb d_Md_told_70 ?_
      refine lv_iconst (v := (1 : Int32)) hx hb d_Md_told_71 (by decide) ?_
      refine lv_iand hx hb d_Md_told_72 ?_
      refine lv_iconst (v := (1 : Int32)) hx hb d_Md_told_73 (by decide) ?_
      refine lv_icmp_ne hx hb d_Md_told_74 (tgt := 159) rfl (fun hc35 => ?_) (fun hc35 => ?_)
      · have h := h.1 hc35
        exact tJ159 _ _ _ _ _ _ h _ _ _ (lv_sub hl [0, 1, 2, 3, 4, 5, 6] rfl) hP hS
      · have h := h.2 hc35
        refine lv_iload hx hb d_Md_told_77 (lv_at hl 4 rfl) ?_
        refine lv_iload_n hx hb d_Md_told_79 rfl (lv_at hl 1 rfl) ?_
        refine lv_icmp_ne hx hb d_Md_told_80 (tgt := 98) rfl (fun hc34 => ?_) (fun hc34 => ?_)
        · have h := h.1 hc34
          exact tJ98 _ _ _ _ _ _ h _ _ _ (lv_sub hl [0, 1, 2, 3, 4, 5, 6] rfl) hP hS
        · have h := h.2 hc34
          refine lv_aload_n hx hb d_Md_told_83 rfl (lv_at hl 0 rfl) ?_
          refine gfM_Md_67 C hP d_Md_told_84 ?_
          refine lv_iload_n hx hb d_Md_told_87 rfl (lv_at hl 1 rfl) ?_
          obtain ⟨j32, ej32, h_j32, h⟩ := h
          refine x_iald hx hb hK hP (16) 0 (Nat.le_of_ble_eq_true rfl) eM_presses rfl ej32 h_j32 (by decide) d_Md_told_88 ?_
          refine lv_iload hx hb d_Md_told_89 (lv_at hl 5 rfl) ?_
          refine lv_icmp_ne hx hb d_Md_told_91 (tgt := 98) rfl (fun hc33 => ?_) (fun hc33 => ?_)
          · have h := h.1 hc33
            exact tJ98 _ _ _ _ _ _ h _ _ _ (lv_sub hl [0, 1, 2, 3, 4, 5, 6] rfl) hP hS
          · have h := h.2 hc33
            refine lv_iconst (v := (1 : Int32)) hx hb d_Md_told_94 (by decide) ?_
            refine lv_goto hx hb d_Md_told_95 (tgt := 99) rfl ?_
            exact tJ99 _ _ _ _ _ _ _ h _ _ _ (lv_sub hl [0, 1, 2, 3, 4, 5, 6] rfl) hP hS
  have hE := lg_entry_eq m [.ref (Θ (0)), .int p1, .int p2] 8
  rw [← hargs] at hE
  rw [hE]
  have hl := lv_entry [.ref (Θ (0)), .int p1, .int p2] (n := 8) (Nat.le_of_ble_eq_true rfl)
  generalize (lg_sl [.ref (Θ (0)), .int p1, .int p2] ++ List.replicate (8 - (lg_sl [.ref (Θ (0)), .int p1, .int p2]).length) Slot.unset).toArray = ls at hl ⊢
  have hl : lv_has ls 8 [(0, .ref (Θ (0))), (1, .int p1), (2, .int p2)] := hl
  unfold p_Md_told at h
  refine lv_iload_n hx hb d_Md_told_0 rfl (lv_at hl 2 rfl) ?_
  refine lv_bipush (v := (16 : Int32)) hx hb d_Md_told_1 (by decide) ?_
  refine lv_ishr hx hb d_Md_told_3 ?_
  refine lv_topi (fun x1 ex1 => ?_)
  have h := h x1 ex1
  refine lv_istore_n hx hb d_Md_told_4 rfl hl (Nat.le_of_ble_eq_true rfl) (lv' := [(3, .int x1), (0, .ref (Θ (0))), (1, .int p1), (2, .int p2)]) rfl (fun ls hl => ?_)
  refine lv_iload_n hx hb d_Md_told_5 rfl (lv_at hl 3 rfl) ?_
  refine lv_bipush (v := (13 : Int32)) hx hb d_Md_told_6 (by decide) ?_
  refine lv_ishr hx hb d_Md_told_8 ?_
  refine lv_bipush (v := (7 : Int32)) hx hb d_Md_told_9 (by decide) ?_
  refine lv_iand hx hb d_Md_told_11 ?_
  refine lv_topi (fun x2 ex2 => ?_)
  have h := h x2 ex2
  refine lv_istore hx hb d_Md_told_12 hl (Nat.le_of_ble_eq_true rfl) (lv' := [(4, .int x2), (3, .int x1), (0, .ref (Θ (0))), (1, .int p1), (2, .int p2)]) rfl (fun ls hl => ?_)
  refine lv_iload_n hx hb d_Md_told_14 rfl (lv_at hl 4 rfl) ?_
  refine lv_bipush (v := (11 : Int32)) hx hb d_Md_told_15 (by decide) ?_
  refine lv_ishr hx hb d_Md_told_17 ?_
  refine lv_iconst (v := (3 : Int32)) hx hb d_Md_told_18 (by decide) ?_
  refine lv_iand hx hb d_Md_told_19 ?_
  refine lv_topi (fun x3 ex3 => ?_)
  have h := h x3 ex3
  refine lv_istore hx hb d_Md_told_20 hl (Nat.le_of_ble_eq_true rfl) (lv' := [(5, .int x3), (4, .int x2), (3, .int x1), (0, .ref (Θ (0))), (1, .int p1), (2, .int p2)]) rfl (fun ls hl => ?_)
  refine lv_iload_n hx hb d_Md_told_22 rfl (lv_at hl 5 rfl) ?_
  refine lv_bipush (v := (9 : Int32)) hx hb d_Md_told_23 (by decide) ?_
  refine lv_ishr hx hb d_Md_told_25 ?_
  refine lv_iconst (v := (3 : Int32)) hx hb d_Md_told_26 (by decide) ?_
  refine lv_iand hx hb d_Md_told_27 ?_
  refine lv_topi (fun x4 ex4 => ?_)
  have h := h x4 ex4
  refine lv_istore hx hb d_Md_told_28 hl (Nat.le_of_ble_eq_true rfl) (lv' := [(6, .int x4), (5, .int x3), (4, .int x2), (3, .int x1), (0, .ref (Θ (0))), (1, .int p1), (2, .int p2)]) rfl (fun ls hl => ?_)
  refine lv_iload_n hx hb d_Md_told_30 rfl (lv_at hl 3 rfl) ?_
  refine lv_bipush (v := (8 : Int32)) hx hb d_Md_told_31 (by decide) ?_
  refine lv_icmp_ne hx hb d_Md_told_33 (tgt := 56) rfl (fun hc42 => ?_) (fun hc42 => ?_)
  · have h := h.1 hc42
    exact tJ56 _ _ _ _ _ _ h _ _ _ (lv_sub hl [4, 5, 6, 3, 2, 1, 0] rfl) hP hS
  · have h := h.2 hc42
    refine lv_iload hx hb d_Md_told_36 (lv_at hl 2 rfl) ?_
    refine lv_iload_n hx hb d_Md_told_38 rfl (lv_at hl 5 rfl) ?_
    refine lv_icmp_ne hx hb d_Md_told_39 (tgt := 56) rfl (fun hc41 => ?_) (fun hc41 => ?_)
    · have h := h.1 hc41
      exact tJ56 _ _ _ _ _ _ h _ _ _ (lv_sub hl [4, 5, 6, 3, 2, 1, 0] rfl) hP hS
    · have h := h.2 hc41
      refine lv_aload_n hx hb d_Md_told_42 rfl (lv_at hl 4 rfl) ?_
      refine gfM_Md_54 C hP d_Md_told_43 ?_
      refine lv_iload_n hx hb d_Md_told_46 rfl (lv_at hl 5 rfl) ?_
      obtain ⟨j37, ej37, h_j37, h⟩ := h
      refine x_zald hx hb hK hP (12) 2 (Nat.le_of_ble_eq_true rfl) eM_sent rfl ej37 h_j37 (by decide) d_Md_told_47 ?_
      refine lv_if_eq hx hb d_Md_told_48 (tgt := 56) rfl (fun hc40 => ?_) (fun hc40 => ?_)
      · have h := h.1 hc40
        exact tJ56 _ _ _ _ _ _ h _ _ _ (lv_sub hl [4, 5, 6, 3, 2, 1, 0] rfl) hP hS
      · have h := h.2 hc40
        refine lv_aload_n hx hb d_Md_told_51 rfl (lv_at hl 4 rfl) ?_
        refine lv_iload_n hx hb d_Md_told_52 rfl (lv_at hl 5 rfl) ?_
        refine x_gv (x_V C hP hS (Nat.le_of_ble_eq_true rfl) (eM_Md _ _) rfl (c_Md_noMessage l D κ hΘ sz p1 I J _ h) q_Md_noMessage k_903 sel_Md_noMessage k_901 rfl rfl ⟨Nat.le_of_ble_eq_true rfl, Nat.le_of_ble_eq_true rfl⟩ rfl hl.1 rfl (Nat.le_of_ble_eq_true rfl) d_Md_told_53) hS (fun I38 J39 h H locs hP hS => ?_)
        exact tJ56 _ _ _ _ _ _ h _ _ _ (lv_sub hl [4, 5, 6, 3, 2, 1, 0] rfl) hP hS
set_option maxHeartbeats 4000000 in
set_option maxRecDepth 100000 in
theorem c_Md_again (l : Launch) (D : va_G) (κ : Nat → ClassId) {Θ : Nat → Nat} (hΘ : xJ 34 Θ) (sz : Nat) (p1 : Int32) (I : SI) (J : SJ) (post : SI → SJ → Prop) (h : p_Md_again p1 post I J) : Met l y_Md_again WS rm_Md_again (va_Pc [.ref (Θ (0)), .int p1] (xPR D clA (tysA κ) 34 Θ (eM Θ κ) sz I J)) (xQv D clA 34 Θ (eM Θ κ) sz post) 0 0 (xA 34 Θ sz) := by
  refine xMet (cc := b_Md_again) (maxL := 3) (ret := none) (by decide) q_Md_again.1 ?_
  intro p e s m args below meth c s₁ B hml hv
  obtain ⟨hargs, hsz, hP, hK, hN, hG⟩ := hv
  have hx := B.exec
  have hb := B.bytes
  have hr := B.returns
  have hlocks := B.notSynchronized
  have hts := atoms_spec (ws := WS) B.pre
  have hown : s.vm.findClass R_Md = some m.cls := findClass_of_methodNamed B.named
  have C : xC p m c b_Md_again 3 s args R_Md D clA (tysA κ) 34 Θ sz := ⟨⟨hx, hb, hml, hown, hts⟩, hK, hN, hG, hsz⟩
  have hS : va_S (xA 34 Θ sz) s.heap s.heap [] := va_S.rf
  have tL82 : ∀ (n : Nat) (v2 : Int32) (I : SI) (J : SJ), p_Md_again_L82 p1 post n v2 I J → ∀ (H : Heap) (locs : List Loc) (ls : Array Slot), lv_has ls 3 [(0, .ref (Θ (0))), (1, .int p1), (2, .int v2)] → va_P D clA (xw 34 Θ (eM Θ κ) I J) H → va_S (xA 34 Θ sz) s.heap H locs → W p l e (headSpec WS rm_Md_again).room s m args below meth c H locs 0 0 (MQ below (xQv D clA 34 Θ (eM Θ κ) sz post) args s 0 0 (xA 34 Θ sz)) (F0 m 82 ls []) := by
    intro n
    induction n with
    | zero =>
      intro v2 I J h H locs ls hl hP hS
      exact h.elim
    | succ n ih =>
      intro v2 I J h H locs ls hl hP hS
      unfold p_Md_again_L82 at h
      refine lv_iload_n hx hb d_Md_again_82 rfl (lv_at hl 2 rfl) ?_
      refine lv_aload_n hx hb d_Md_again_83 rfl (lv_at hl 0 rfl) ?_
      refine gfM_Md_76 C hP d_Md_again_84 ?_
      refine lv_iload_n hx hb d_Md_again_87 rfl (lv_at hl 1 rfl) ?_
      obtain ⟨j13, ej13, h_j13, h⟩ := h
      refine x_iald hx hb hK hP (19) 0 (Nat.le_of_ble_eq_true rfl) eM_drawCount rfl ej13 h_j13 (by decide) d_Md_again_88 ?_
      refine lv_icmp_ge hx hb d_Md_again_89 (tgt := 122) rfl (fun hc18 => ?_) (fun hc18 => ?_)
      · have h := h.1 hc18
        exact x_vret hx hb hr hlocks hP hS h d_Md_again_122
      · have h := h.2 hc18
        refine lv_aload_n hx hb d_Md_again_92 rfl (lv_at hl 0 rfl) ?_
        refine gfM_Md_73 C hP d_Md_again_93 ?_
        refine lv_bipush (v := (8 : Int32)) hx hb d_Md_again_96 (by decide) ?_
        refine lv_iload_n hx hb d_Md_again_98 rfl (lv_at hl 1 rfl) ?_
        refine lv_imul hx hb d_Md_again_99 ?_
        refine lv_iload_n hx hb d_Md_again_100 rfl (lv_at hl 2 rfl) ?_
        refine lv_iadd hx hb d_Md_again_101 ?_
        refine lv_aload_n hx hb d_Md_again_102 rfl (lv_at hl 0 rfl) ?_
        refine gfM_Md_73 C hP d_Md_again_103 ?_
        refine lv_bipush (v := (8 : Int32)) hx hb d_Md_again_106 (by decide) ?_
        refine lv_iload_n hx hb d_Md_again_108 rfl (lv_at hl 1 rfl) ?_
        refine lv_imul hx hb d_Md_again_109 ?_
        refine lv_iload_n hx hb d_Md_again_110 rfl (lv_at hl 2 rfl) ?_
        refine lv_iadd hx hb d_Md_again_111 ?_
        refine lv_iconst (v := (1 : Int32)) hx hb d_Md_again_112 (by decide) ?_
        refine lv_iadd hx hb d_Md_again_113 ?_
        obtain ⟨j14, ej14, h_j14, h⟩ := h
        refine x_iald hx hb hK hP (18) 0 (Nat.le_of_ble_eq_true rfl) eM_draws rfl ej14 h_j14 (by decide) d_Md_again_114 ?_
        obtain ⟨j15, ej15, h_j15, h⟩ := h
        refine x_iast hx hb hK hΘ hP hS (18) 0 (Nat.le_of_ble_eq_true rfl) eM_draws rfl ej15 h_j15 (by decide) d_Md_again_115 (fun H locs hP hS => ?_)
        obtain ⟨I16, eI16⟩ : ∃ y, y = xu I (18) j15 (I (18) j14) := ⟨_, rfl⟩
        have hP : va_P D clA (xw 34 Θ (eM Θ κ) I16 J) H := by rw [eI16]; exact hP
        have h := h I16 eI16
        obtain ⟨x17, ex17⟩ : ∃ y : Int32, y = v2 + (1 : Int32) := ⟨_, rfl⟩
        have h := h x17 ex17
        refine lv_iinc (k := 2) (v := x17) hx hb d_Md_again_116 hl rfl (by rw [ex17]; rfl) (Nat.le_of_ble_eq_true rfl) (lv' := [(2, .int x17), (0, .ref (Θ (0))), (1, .int p1)]) rfl (fun ls hl => ?_)
        refine lv_goto hx hb d_Md_again_119 (tgt := 82) rfl ?_
        exact ih _ _ _ h _ _ _ (lv_sub hl [1, 2, 0] rfl) hP hS
  have hE := lg_entry_eq m [.ref (Θ (0)), .int p1] 3
  rw [← hargs] at hE
  rw [hE]
  have hl := lv_entry [.ref (Θ (0)), .int p1] (n := 3) (Nat.le_of_ble_eq_true rfl)
  generalize (lg_sl [.ref (Θ (0)), .int p1] ++ List.replicate (3 - (lg_sl [.ref (Θ (0)), .int p1]).length) Slot.unset).toArray = ls at hl ⊢
  have hl : lv_has ls 3 [(0, .ref (Θ (0))), (1, .int p1)] := hl
  unfold p_Md_again at h
  refine lv_aload_n hx hb d_Md_again_0 rfl (lv_at hl 0 rfl) ?_
  refine gfM_Md_48 C hP d_Md_again_1 ?_
  refine lv_iload_n hx hb d_Md_again_4 rfl (lv_at hl 1 rfl) ?_
  refine lv_aload_n hx hb d_Md_again_5 rfl (lv_at hl 0 rfl) ?_
  refine gfM_Md_48 C hP d_Md_again_6 ?_
  refine lv_iload_n hx hb d_Md_again_9 rfl (lv_at hl 1 rfl) ?_
  obtain ⟨j1, ej1, h_j1, h⟩ := h
  refine x_iald hx hb hK hP (10) 0 (Nat.le_of_ble_eq_true rfl) eM_tries rfl ej1 h_j1 (by decide) d_Md_again_10 ?_
  refine lv_iconst (v := (1 : Int32)) hx hb d_Md_again_11 (by decide) ?_
  refine lv_iadd hx hb d_Md_again_12 ?_
  obtain ⟨j2, ej2, h_j2, h⟩ := h
  refine x_iast hx hb hK hΘ hP hS (10) 0 (Nat.le_of_ble_eq_true rfl) eM_tries rfl ej2 h_j2 (by decide) d_Md_again_13 (fun H locs hP hS => ?_)
  obtain ⟨I3, eI3⟩ : ∃ y, y = xu I (10) j2 ((I (10) j1) + (1 : Int32)) := ⟨_, rfl⟩
  have hP : va_P D clA (xw 34 Θ (eM Θ κ) I3 J) H := by rw [eI3]; exact hP
  have h := h I3 eI3
  refine lv_aload_n hx hb d_Md_again_14 rfl (lv_at hl 0 rfl) ?_
  refine gfM_Md_48 C hP d_Md_again_15 ?_
  refine lv_iload_n hx hb d_Md_again_18 rfl (lv_at hl 1 rfl) ?_
  obtain ⟨j4, ej4, h_j4, h⟩ := h
  refine x_iald hx hb hK hP (10) 0 (Nat.le_of_ble_eq_true rfl) eM_tries rfl ej4 h_j4 (by decide) d_Md_again_19 ?_
  refine lv_iconst (v := (5 : Int32)) hx hb d_Md_again_20 (by decide) ?_
  refine lv_icmp_ne hx hb d_Md_again_21 (tgt := 32) rfl (fun hc25 => ?_) (fun hc25 => ?_)
  · have h := h.1 hc25
    refine lv_aload_n hx hb d_Md_again_32 rfl (lv_at hl 0 rfl) ?_
    refine gfM_Md_76 C hP d_Md_again_33 ?_
    refine lv_iload_n hx hb d_Md_again_36 rfl (lv_at hl 1 rfl) ?_
    obtain ⟨j5, ej5, h_j5, h⟩ := h
    refine x_iald hx hb hK hP (19) 0 (Nat.le_of_ble_eq_true rfl) eM_drawCount rfl ej5 h_j5 (by decide) d_Md_again_37 ?_
    refine lv_if_ne hx hb d_Md_again_38 (tgt := 51) rfl (fun hc22 => ?_) (fun hc22 => ?_)
    · have h := h.1 hc22
      refine lv_aload_n hx hb d_Md_again_51 rfl (lv_at hl 0 rfl) ?_
      refine gfM_Md_51 C hP d_Md_again_52 ?_
      refine lv_iload_n hx hb d_Md_again_55 rfl (lv_at hl 1 rfl) ?_
      refine lv_aload_n hx hb d_Md_again_56 rfl (lv_at hl 0 rfl) ?_
      refine gfM_Md_73 C hP d_Md_again_57 ?_
      refine lv_bipush (v := (8 : Int32)) hx hb d_Md_again_60 (by decide) ?_
      refine lv_iload_n hx hb d_Md_again_62 rfl (lv_at hl 1 rfl) ?_
      refine lv_imul hx hb d_Md_again_63 ?_
      obtain ⟨j6, ej6, h_j6, h⟩ := h
      refine x_iald hx hb hK hP (18) 0 (Nat.le_of_ble_eq_true rfl) eM_draws rfl ej6 h_j6 (by decide) d_Md_again_64 ?_
      obtain ⟨j7, ej7, h_j7, h⟩ := h
      refine x_iast hx hb hK hΘ hP hS (11) 0 (Nat.le_of_ble_eq_true rfl) eM_wait rfl ej7 h_j7 (by decide) d_Md_again_65 (fun H locs hP hS => ?_)
      obtain ⟨I8, eI8⟩ : ∃ y, y = xu I3 (11) j7 (I3 (18) j6) := ⟨_, rfl⟩
      have hP : va_P D clA (xw 34 Θ (eM Θ κ) I8 J) H := by rw [eI8]; exact hP
      have h := h I8 eI8
      refine lv_aload_n hx hb d_Md_again_66 rfl (lv_at hl 0 rfl) ?_
      refine gfM_Md_76 C hP d_Md_again_67 ?_
      refine lv_iload_n hx hb d_Md_again_70 rfl (lv_at hl 1 rfl) ?_
      refine lv_aload_n hx hb d_Md_again_71 rfl (lv_at hl 0 rfl) ?_
      refine gfM_Md_76 C hP d_Md_again_72 ?_
      refine lv_iload_n hx hb d_Md_again_75 rfl (lv_at hl 1 rfl) ?_
      obtain ⟨j9, ej9, h_j9, h⟩ := h
      refine x_iald hx hb hK hP (19) 0 (Nat.le_of_ble_eq_true rfl) eM_drawCount rfl ej9 h_j9 (by decide) d_Md_again_76 ?_
      refine lv_iconst (v := (1 : Int32)) hx hb d_Md_again_77 (by decide) ?_
      refine lv_isub hx hb d_Md_again_78 ?_
      obtain ⟨j10, ej10, h_j10, h⟩ := h
      refine x_iast hx hb hK hΘ hP hS (19) 0 (Nat.le_of_ble_eq_true rfl) eM_drawCount rfl ej10 h_j10 (by decide) d_Md_again_79 (fun H locs hP hS => ?_)
      obtain ⟨I11, eI11⟩ : ∃ y, y = xu I8 (19) j10 ((I8 (19) j9) - (1 : Int32)) := ⟨_, rfl⟩
      have hP : va_P D clA (xw 34 Θ (eM Θ κ) I11 J) H := by rw [eI11]; exact hP
      have h := h I11 eI11
      refine lv_iconst (v := (0 : Int32)) hx hb d_Md_again_80 (by decide) ?_
      refine lv_topi (fun x12 ex12 => ?_)
      have h := h x12 ex12
      refine lv_istore_n hx hb d_Md_again_81 rfl hl (Nat.le_of_ble_eq_true rfl) (lv' := [(2, .int x12), (0, .ref (Θ (0))), (1, .int p1)]) rfl (fun ls hl => ?_)
      obtain ⟨n19, h⟩ := h
      refine tL82 n19 _ _ _ h _ _ _ (lv_sub hl [1, 2, 0] rfl) hP hS
    · have h := h.2 hc22
      refine lv_aload_n hx hb d_Md_again_41 rfl (lv_at hl 0 rfl) ?_
      refine gfM_Md_51 C hP d_Md_again_42 ?_
      refine lv_iload_n hx hb d_Md_again_45 rfl (lv_at hl 1 rfl) ?_
      refine lv_iconst (v := (1 : Int32)) hx hb d_Md_again_46 (by decide) ?_
      obtain ⟨j20, ej20, h_j20, h⟩ := h
      refine x_iast hx hb hK hΘ hP hS (11) 0 (Nat.le_of_ble_eq_true rfl) eM_wait rfl ej20 h_j20 (by decide) d_Md_again_47 (fun H locs hP hS => ?_)
      obtain ⟨I21, eI21⟩ : ∃ y, y = xu I3 (11) j20 (1 : Int32) := ⟨_, rfl⟩
      have hP : va_P D clA (xw 34 Θ (eM Θ κ) I21 J) H := by rw [eI21]; exact hP
      have h := h I21 eI21
      refine lv_goto hx hb d_Md_again_48 (tgt := 122) rfl ?_
      exact x_vret hx hb hr hlocks hP hS h d_Md_again_122
  · have h := h.2 hc25
    refine lv_aload_n hx hb d_Md_again_24 rfl (lv_at hl 0 rfl) ?_
    refine lv_iload_n hx hb d_Md_again_25 rfl (lv_at hl 1 rfl) ?_
    refine x_gv (x_V C hP hS (Nat.le_of_ble_eq_true rfl) (eM_Md _ _) rfl (c_Md_noMessage l D κ hΘ sz p1 I3 J _ h) q_Md_noMessage k_903 sel_Md_noMessage k_901 rfl rfl ⟨Nat.le_of_ble_eq_true rfl, Nat.le_of_ble_eq_true rfl⟩ rfl hl.1 rfl (Nat.le_of_ble_eq_true rfl) d_Md_again_26) hS (fun I23 J24 h H locs hP hS => ?_)
    refine lv_goto hx hb d_Md_again_29 (tgt := 122) rfl ?_
    exact x_vret hx hb hr hlocks hP hS h d_Md_again_122
