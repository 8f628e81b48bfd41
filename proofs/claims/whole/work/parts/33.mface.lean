theorem d_Md_thrown_0 : decode b_Md_thrown 0 = .ok (.aload_n 0, 1) := by decide +kernel
theorem d_Md_thrown_1 : decode b_Md_thrown 1 = .ok (.getfield 7, 3) := by decide +kernel
theorem d_Md_thrown_4 : decode b_Md_thrown 4 = .ok (.ireturn, 1) := by decide +kernel
theorem d_Md_in_0 : decode b_Md_in 0 = .ok (.iload_n 0, 1) := by decide +kernel
theorem d_Md_in_1 : decode b_Md_in 1 = .ok (.ifCond .lt (12), 3) := by decide +kernel
theorem d_Md_in_4 : decode b_Md_in 4 = .ok (.iload_n 0, 1) := by decide +kernel
theorem d_Md_in_5 : decode b_Md_in 5 = .ok (.iload_n 1, 1) := by decide +kernel
theorem d_Md_in_6 : decode b_Md_in 6 = .ok (.if_icmp .ge (7), 3) := by decide +kernel
theorem d_Md_in_9 : decode b_Md_in 9 = .ok (.iconst (1), 1) := by decide +kernel
theorem d_Md_in_10 : decode b_Md_in 10 = .ok (.goto (4), 3) := by decide +kernel
theorem d_Md_in_13 : decode b_Md_in 13 = .ok (.iconst (0), 1) := by decide +kernel
theorem d_Md_in_14 : decode b_Md_in 14 = .ok (.ireturn, 1) := by decide +kernel
theorem d_Md_keys_0 : decode b_Md_keys 0 = .ok (.aload_n 0, 1) := by decide +kernel
theorem d_Md_keys_1 : decode b_Md_keys 1 = .ok (.iload_n 1, 1) := by decide +kernel
theorem d_Md_keys_2 : decode b_Md_keys 2 = .ok (.bipush (8), 2) := by decide +kernel
theorem d_Md_keys_4 : decode b_Md_keys 4 = .ok (.invokestatic 216, 3) := by decide +kernel
theorem d_Md_keys_7 : decode b_Md_keys 7 = .ok (.ifCond .eq (7), 3) := by decide +kernel
theorem d_Md_keys_10 : decode b_Md_keys 10 = .ok (.iconst (0), 1) := by decide +kernel
theorem d_Md_keys_11 : decode b_Md_keys 11 = .ok (.goto (4), 3) := by decide +kernel
theorem d_Md_keys_14 : decode b_Md_keys 14 = .ok (.iconst (1), 1) := by decide +kernel
theorem d_Md_keys_15 : decode b_Md_keys 15 = .ok (.putfield 7, 3) := by decide +kernel
theorem d_Md_keys_18 : decode b_Md_keys 18 = .ok (.aload_n 0, 1) := by decide +kernel
theorem d_Md_keys_19 : decode b_Md_keys 19 = .ok (.getfield 7, 3) := by decide +kernel
theorem d_Md_keys_22 : decode b_Md_keys 22 = .ok (.ifCond .ne (17), 3) := by decide +kernel
theorem d_Md_keys_25 : decode b_Md_keys 25 = .ok (.aload_n 0, 1) := by decide +kernel
theorem d_Md_keys_26 : decode b_Md_keys 26 = .ok (.getfield 30, 3) := by decide +kernel
theorem d_Md_keys_29 : decode b_Md_keys 29 = .ok (.iload_n 1, 1) := by decide +kernel
theorem d_Md_keys_30 : decode b_Md_keys 30 = .ok (.iload_n 2, 1) := by decide +kernel
theorem d_Md_keys_31 : decode b_Md_keys 31 = .ok (.iastore, 1) := by decide +kernel
theorem d_Md_keys_32 : decode b_Md_keys 32 = .ok (.aload_n 0, 1) := by decide +kernel
theorem d_Md_keys_33 : decode b_Md_keys 33 = .ok (.getfield 33, 3) := by decide +kernel
theorem d_Md_keys_36 : decode b_Md_keys 36 = .ok (.iload_n 1, 1) := by decide +kernel
theorem d_Md_keys_37 : decode b_Md_keys 37 = .ok (.iload_n 3, 1) := by decide +kernel
theorem d_Md_keys_38 : decode b_Md_keys 38 = .ok (.iastore, 1) := by decide +kernel
theorem d_Md_keys_39 : decode b_Md_keys 39 = .ok (.return_, 1) := by decide +kernel
theorem d_Md_group_0 : decode b_Md_group 0 = .ok (.aload_n 0, 1) := by decide +kernel
theorem d_Md_group_1 : decode b_Md_group 1 = .ok (.iload_n 1, 1) := by decide +kernel
theorem d_Md_group_2 : decode b_Md_group 2 = .ok (.iconst (4), 1) := by decide +kernel
theorem d_Md_group_3 : decode b_Md_group 3 = .ok (.invokestatic 216, 3) := by decide +kernel
theorem d_Md_group_6 : decode b_Md_group 6 = .ok (.ifCond .eq (7), 3) := by decide +kernel
theorem d_Md_group_9 : decode b_Md_group 9 = .ok (.iconst (0), 1) := by decide +kernel
theorem d_Md_group_10 : decode b_Md_group 10 = .ok (.goto (4), 3) := by decide +kernel
theorem d_Md_group_13 : decode b_Md_group 13 = .ok (.iconst (1), 1) := by decide +kernel
theorem d_Md_group_14 : decode b_Md_group 14 = .ok (.putfield 7, 3) := by decide +kernel
theorem d_Md_group_17 : decode b_Md_group 17 = .ok (.aload_n 0, 1) := by decide +kernel
theorem d_Md_group_18 : decode b_Md_group 18 = .ok (.getfield 7, 3) := by decide +kernel
theorem d_Md_group_21 : decode b_Md_group 21 = .ok (.ifCond .ne (10), 3) := by decide +kernel
theorem d_Md_group_24 : decode b_Md_group 24 = .ok (.aload_n 0, 1) := by decide +kernel
theorem d_Md_group_25 : decode b_Md_group 25 = .ok (.getfield 98, 3) := by decide +kernel
theorem d_Md_group_28 : decode b_Md_group 28 = .ok (.iload_n 1, 1) := by decide +kernel
theorem d_Md_group_29 : decode b_Md_group 29 = .ok (.iload_n 2, 1) := by decide +kernel
theorem d_Md_group_30 : decode b_Md_group 30 = .ok (.iastore, 1) := by decide +kernel
theorem d_Md_group_31 : decode b_Md_group 31 = .ok (.return_, 1) := by decide +kernel
theorem d_Md_member_0 : decode b_Md_member 0 = .ok (.aload_n 0, 1) := by decide +kernel
theorem d_Md_member_1 : decode b_Md_member 1 = .ok (.iload_n 1, 1) := by decide +kernel
theorem d_Md_member_2 : decode b_Md_member 2 = .ok (.bipush (8), 2) := by decide +kernel
theorem d_Md_member_4 : decode b_Md_member 4 = .ok (.invokestatic 216, 3) := by decide +kernel
theorem d_Md_member_7 : decode b_Md_member 7 = .ok (.ifCond .eq (7), 3) := by decide +kernel
theorem d_Md_member_10 : decode b_Md_member 10 = .ok (.iconst (0), 1) := by decide +kernel
theorem d_Md_member_11 : decode b_Md_member 11 = .ok (.goto (4), 3) := by decide +kernel
theorem d_Md_member_14 : decode b_Md_member 14 = .ok (.iconst (1), 1) := by decide +kernel
theorem d_Md_member_15 : decode b_Md_member 15 = .ok (.putfield 7, 3) := by decide +kernel
theorem d_Md_member_18 : decode b_Md_member 18 = .ok (.aload_n 0, 1) := by decide +kernel
theorem d_Md_member_19 : decode b_Md_member 19 = .ok (.getfield 7, 3) := by decide +kernel
theorem d_Md_member_22 : decode b_Md_member 22 = .ok (.ifCond .ne (13), 3) := by decide +kernel
theorem d_Md_member_25 : decode b_Md_member 25 = .ok (.aload_n 0, 1) := by decide +kernel
theorem d_Md_member_26 : decode b_Md_member 26 = .ok (.getfield 36, 3) := by decide +kernel
theorem d_Md_member_29 : decode b_Md_member 29 = .ok (.iload_n 1, 1) := by decide +kernel
theorem d_Md_member_30 : decode b_Md_member 30 = .ok (.iload_n 2, 1) := by decide +kernel
theorem d_Md_member_31 : decode b_Md_member 31 = .ok (.bipush (15), 2) := by decide +kernel
theorem d_Md_member_33 : decode b_Md_member 33 = .ok (.iand, 1) := by decide +kernel
theorem d_Md_member_34 : decode b_Md_member 34 = .ok (.iastore, 1) := by decide +kernel
theorem d_Md_member_35 : decode b_Md_member 35 = .ok (.return_, 1) := by decide +kernel
theorem d_Md_move_0 : decode b_Md_move 0 = .ok (.aload_n 0, 1) := by decide +kernel
theorem d_Md_move_1 : decode b_Md_move 1 = .ok (.iload_n 1, 1) := by decide +kernel
theorem d_Md_move_2 : decode b_Md_move 2 = .ok (.bipush (8), 2) := by decide +kernel
theorem d_Md_move_4 : decode b_Md_move 4 = .ok (.invokestatic 216, 3) := by decide +kernel
theorem d_Md_move_7 : decode b_Md_move 7 = .ok (.ifCond .eq (17), 3) := by decide +kernel
theorem d_Md_move_10 : decode b_Md_move 10 = .ok (.iload_n 2, 1) := by decide +kernel
theorem d_Md_move_11 : decode b_Md_move 11 = .ok (.iconst (-1), 1) := by decide +kernel
theorem d_Md_move_12 : decode b_Md_move 12 = .ok (.if_icmp .lt (12), 3) := by decide +kernel
theorem d_Md_move_15 : decode b_Md_move 15 = .ok (.iload_n 2, 1) := by decide +kernel
theorem d_Md_move_16 : decode b_Md_move 16 = .ok (.iconst (3), 1) := by decide +kernel
theorem d_Md_move_17 : decode b_Md_move 17 = .ok (.if_icmp .ge (7), 3) := by decide +kernel
theorem d_Md_move_20 : decode b_Md_move 20 = .ok (.iconst (0), 1) := by decide +kernel
theorem d_Md_move_21 : decode b_Md_move 21 = .ok (.goto (4), 3) := by decide +kernel
theorem d_Md_move_24 : decode b_Md_move 24 = .ok (.iconst (1), 1) := by decide +kernel
theorem d_Md_move_25 : decode b_Md_move 25 = .ok (.putfield 7, 3) := by decide +kernel
theorem d_Md_move_28 : decode b_Md_move 28 = .ok (.aload_n 0, 1) := by decide +kernel
theorem d_Md_move_29 : decode b_Md_move 29 = .ok (.getfield 7, 3) := by decide +kernel
theorem d_Md_move_32 : decode b_Md_move 32 = .ok (.ifCond .ne (27), 3) := by decide +kernel
theorem d_Md_move_35 : decode b_Md_move 35 = .ok (.aload_n 0, 1) := by decide +kernel
theorem d_Md_move_36 : decode b_Md_move 36 = .ok (.getfield 27, 3) := by decide +kernel
theorem d_Md_move_39 : decode b_Md_move 39 = .ok (.iload_n 1, 1) := by decide +kernel
theorem d_Md_move_40 : decode b_Md_move 40 = .ok (.iload_n 2, 1) := by decide +kernel
theorem d_Md_move_41 : decode b_Md_move 41 = .ok (.iastore, 1) := by decide +kernel
theorem d_Md_move_42 : decode b_Md_move 42 = .ok (.aload_n 0, 1) := by decide +kernel
theorem d_Md_move_43 : decode b_Md_move 43 = .ok (.iload_n 1, 1) := by decide +kernel
theorem d_Md_move_44 : decode b_Md_move 44 = .ok (.invokevirtual 181, 3) := by decide +kernel
theorem d_Md_move_47 : decode b_Md_move 47 = .ok (.aload_n 0, 1) := by decide +kernel
theorem d_Md_move_48 : decode b_Md_move 48 = .ok (.getfield 67, 3) := by decide +kernel
theorem d_Md_move_51 : decode b_Md_move 51 = .ok (.iload_n 1, 1) := by decide +kernel
theorem d_Md_move_52 : decode b_Md_move 52 = .ok (.iconst (-1), 1) := by decide +kernel
theorem d_Md_move_53 : decode b_Md_move 53 = .ok (.iastore, 1) := by decide +kernel
theorem d_Md_move_54 : decode b_Md_move 54 = .ok (.aload_n 0, 1) := by decide +kernel
theorem d_Md_move_55 : decode b_Md_move 55 = .ok (.iload_n 1, 1) := by decide +kernel
theorem d_Md_move_56 : decode b_Md_move 56 = .ok (.invokevirtual 184, 3) := by decide +kernel
theorem d_Md_move_59 : decode b_Md_move 59 = .ok (.return_, 1) := by decide +kernel
theorem d_Md_begin_0 : decode b_Md_begin 0 = .ok (.aload_n 0, 1) := by decide +kernel
theorem d_Md_begin_1 : decode b_Md_begin 1 = .ok (.getfield 39, 3) := by decide +kernel
theorem d_Md_begin_4 : decode b_Md_begin 4 = .ok (.iload_n 1, 1) := by decide +kernel
theorem d_Md_begin_5 : decode b_Md_begin 5 = .ok (.iload_n 2, 1) := by decide +kernel
theorem d_Md_begin_6 : decode b_Md_begin 6 = .ok (.iastore, 1) := by decide +kernel
theorem d_Md_begin_7 : decode b_Md_begin 7 = .ok (.aload_n 0, 1) := by decide +kernel
theorem d_Md_begin_8 : decode b_Md_begin 8 = .ok (.getfield 42, 3) := by decide +kernel
theorem d_Md_begin_11 : decode b_Md_begin 11 = .ok (.iload_n 1, 1) := by decide +kernel
theorem d_Md_begin_12 : decode b_Md_begin 12 = .ok (.iload_n 3, 1) := by decide +kernel
theorem d_Md_begin_13 : decode b_Md_begin 13 = .ok (.iastore, 1) := by decide +kernel
theorem d_Md_begin_14 : decode b_Md_begin 14 = .ok (.aload_n 0, 1) := by decide +kernel
theorem d_Md_begin_15 : decode b_Md_begin 15 = .ok (.getfield 45, 3) := by decide +kernel
theorem d_Md_begin_18 : decode b_Md_begin 18 = .ok (.iload_n 1, 1) := by decide +kernel
theorem d_Md_begin_19 : decode b_Md_begin 19 = .ok (.iload 4, 2) := by decide +kernel
theorem d_Md_begin_21 : decode b_Md_begin 21 = .ok (.iastore, 1) := by decide +kernel
theorem d_Md_begin_22 : decode b_Md_begin 22 = .ok (.aload_n 0, 1) := by decide +kernel
theorem d_Md_begin_23 : decode b_Md_begin 23 = .ok (.getfield 48, 3) := by decide +kernel
theorem d_Md_begin_26 : decode b_Md_begin 26 = .ok (.iload_n 1, 1) := by decide +kernel
theorem d_Md_begin_27 : decode b_Md_begin 27 = .ok (.iconst (0), 1) := by decide +kernel
theorem d_Md_begin_28 : decode b_Md_begin 28 = .ok (.iastore, 1) := by decide +kernel
theorem d_Md_begin_29 : decode b_Md_begin 29 = .ok (.aload_n 0, 1) := by decide +kernel
theorem d_Md_begin_30 : decode b_Md_begin 30 = .ok (.getfield 51, 3) := by decide +kernel
theorem d_Md_begin_33 : decode b_Md_begin 33 = .ok (.iload_n 1, 1) := by decide +kernel
theorem d_Md_begin_34 : decode b_Md_begin 34 = .ok (.iconst (0), 1) := by decide +kernel
theorem d_Md_begin_35 : decode b_Md_begin 35 = .ok (.iastore, 1) := by decide +kernel
theorem d_Md_begin_36 : decode b_Md_begin 36 = .ok (.return_, 1) := by decide +kernel
theorem d_Md_register_0 : decode b_Md_register 0 = .ok (.aload_n 0, 1) := by decide +kernel
theorem d_Md_register_1 : decode b_Md_register 1 = .ok (.iload_n 1, 1) := by decide +kernel
theorem d_Md_register_2 : decode b_Md_register 2 = .ok (.bipush (8), 2) := by decide +kernel
theorem d_Md_register_4 : decode b_Md_register 4 = .ok (.invokestatic 216, 3) := by decide +kernel
theorem d_Md_register_7 : decode b_Md_register 7 = .ok (.ifCond .ne (7), 3) := by decide +kernel
theorem d_Md_register_10 : decode b_Md_register 10 = .ok (.iconst (1), 1) := by decide +kernel
theorem d_Md_register_11 : decode b_Md_register 11 = .ok (.goto (26), 3) := by decide +kernel
theorem d_Md_register_14 : decode b_Md_register 14 = .ok (.aload_n 0, 1) := by decide +kernel
theorem d_Md_register_15 : decode b_Md_register 15 = .ok (.getfield 27, 3) := by decide +kernel
theorem d_Md_register_18 : decode b_Md_register 18 = .ok (.iload_n 1, 1) := by decide +kernel
theorem d_Md_register_19 : decode b_Md_register 19 = .ok (.iaload, 1) := by decide +kernel
theorem d_Md_register_20 : decode b_Md_register 20 = .ok (.ifCond .lt (12), 3) := by decide +kernel
theorem d_Md_register_23 : decode b_Md_register 23 = .ok (.aload_n 0, 1) := by decide +kernel
theorem d_Md_register_24 : decode b_Md_register 24 = .ok (.getfield 39, 3) := by decide +kernel
theorem d_Md_register_27 : decode b_Md_register 27 = .ok (.iload_n 1, 1) := by decide +kernel
theorem d_Md_register_28 : decode b_Md_register 28 = .ok (.iaload, 1) := by decide +kernel
theorem d_Md_register_29 : decode b_Md_register 29 = .ok (.ifCond .le (7), 3) := by decide +kernel
theorem d_Md_register_32 : decode b_Md_register 32 = .ok (.iconst (2), 1) := by decide +kernel
theorem d_Md_register_33 : decode b_Md_register 33 = .ok (.goto (4), 3) := by decide +kernel
theorem d_Md_register_36 : decode b_Md_register 36 = .ok (.iconst (0), 1) := by decide +kernel
theorem d_Md_register_37 : decode b_Md_register 37 = .ok (.putfield 7, 3) := by decide +kernel
theorem d_Md_register_40 : decode b_Md_register 40 = .ok (.aload_n 0, 1) := by decide +kernel
theorem d_Md_register_41 : decode b_Md_register 41 = .ok (.getfield 7, 3) := by decide +kernel
theorem d_Md_register_44 : decode b_Md_register 44 = .ok (.ifCond .ne (11), 3) := by decide +kernel
theorem d_Md_register_47 : decode b_Md_register 47 = .ok (.aload_n 0, 1) := by decide +kernel
theorem d_Md_register_48 : decode b_Md_register 48 = .ok (.iload_n 1, 1) := by decide +kernel
theorem d_Md_register_49 : decode b_Md_register 49 = .ok (.iconst (1), 1) := by decide +kernel
theorem d_Md_register_50 : decode b_Md_register 50 = .ok (.iconst (0), 1) := by decide +kernel
theorem d_Md_register_51 : decode b_Md_register 51 = .ok (.iconst (0), 1) := by decide +kernel
theorem d_Md_register_52 : decode b_Md_register 52 = .ok (.invokevirtual 220, 3) := by decide +kernel
theorem d_Md_register_55 : decode b_Md_register 55 = .ok (.return_, 1) := by decide +kernel
theorem d_Md_press_0 : decode b_Md_press 0 = .ok (.aload_n 0, 1) := by decide +kernel
theorem d_Md_press_1 : decode b_Md_press 1 = .ok (.iload_n 1, 1) := by decide +kernel
theorem d_Md_press_2 : decode b_Md_press 2 = .ok (.bipush (8), 2) := by decide +kernel
theorem d_Md_press_4 : decode b_Md_press 4 = .ok (.invokestatic 216, 3) := by decide +kernel
theorem d_Md_press_7 : decode b_Md_press 7 = .ok (.ifCond .eq (11), 3) := by decide +kernel
theorem d_Md_press_10 : decode b_Md_press 10 = .ok (.iload_n 2, 1) := by decide +kernel
theorem d_Md_press_11 : decode b_Md_press 11 = .ok (.iconst (4), 1) := by decide +kernel
theorem d_Md_press_12 : decode b_Md_press 12 = .ok (.invokestatic 216, 3) := by decide +kernel
theorem d_Md_press_15 : decode b_Md_press 15 = .ok (.ifCond .ne (7), 3) := by decide +kernel
theorem d_Md_press_18 : decode b_Md_press 18 = .ok (.iconst (1), 1) := by decide +kernel
theorem d_Md_press_19 : decode b_Md_press 19 = .ok (.goto (35), 3) := by decide +kernel
theorem d_Md_press_22 : decode b_Md_press 22 = .ok (.aload_n 0, 1) := by decide +kernel
theorem d_Md_press_23 : decode b_Md_press 23 = .ok (.getfield 27, 3) := by decide +kernel
theorem d_Md_press_26 : decode b_Md_press 26 = .ok (.iload_n 1, 1) := by decide +kernel
theorem d_Md_press_27 : decode b_Md_press 27 = .ok (.iaload, 1) := by decide +kernel
theorem d_Md_press_28 : decode b_Md_press 28 = .ok (.ifCond .lt (21), 3) := by decide +kernel
theorem d_Md_press_31 : decode b_Md_press 31 = .ok (.aload_n 0, 1) := by decide +kernel
theorem d_Md_press_32 : decode b_Md_press 32 = .ok (.getfield 39, 3) := by decide +kernel
theorem d_Md_press_35 : decode b_Md_press 35 = .ok (.iload_n 1, 1) := by decide +kernel
theorem d_Md_press_36 : decode b_Md_press 36 = .ok (.iaload, 1) := by decide +kernel
theorem d_Md_press_37 : decode b_Md_press 37 = .ok (.ifCond .gt (12), 3) := by decide +kernel
theorem d_Md_press_40 : decode b_Md_press 40 = .ok (.aload_n 0, 1) := by decide +kernel
theorem d_Md_press_41 : decode b_Md_press 41 = .ok (.getfield 67, 3) := by decide +kernel
theorem d_Md_press_44 : decode b_Md_press 44 = .ok (.iload_n 1, 1) := by decide +kernel
theorem d_Md_press_45 : decode b_Md_press 45 = .ok (.iaload, 1) := by decide +kernel
theorem d_Md_press_46 : decode b_Md_press 46 = .ok (.ifCond .lt (7), 3) := by decide +kernel
theorem d_Md_press_49 : decode b_Md_press 49 = .ok (.iconst (2), 1) := by decide +kernel
theorem d_Md_press_50 : decode b_Md_press 50 = .ok (.goto (4), 3) := by decide +kernel
theorem d_Md_press_53 : decode b_Md_press 53 = .ok (.iconst (0), 1) := by decide +kernel
theorem d_Md_press_54 : decode b_Md_press 54 = .ok (.putfield 7, 3) := by decide +kernel
theorem d_Md_press_57 : decode b_Md_press 57 = .ok (.aload_n 0, 1) := by decide +kernel
theorem d_Md_press_58 : decode b_Md_press 58 = .ok (.getfield 7, 3) := by decide +kernel
theorem d_Md_press_61 : decode b_Md_press 61 = .ok (.ifCond .ne (24), 3) := by decide +kernel
theorem d_Md_press_64 : decode b_Md_press 64 = .ok (.aload_n 0, 1) := by decide +kernel
theorem d_Md_press_65 : decode b_Md_press 65 = .ok (.getfield 67, 3) := by decide +kernel
theorem d_Md_press_68 : decode b_Md_press 68 = .ok (.iload_n 1, 1) := by decide +kernel
theorem d_Md_press_69 : decode b_Md_press 69 = .ok (.iload_n 2, 1) := by decide +kernel
theorem d_Md_press_70 : decode b_Md_press 70 = .ok (.iastore, 1) := by decide +kernel
theorem d_Md_press_71 : decode b_Md_press 71 = .ok (.aload_n 0, 1) := by decide +kernel
theorem d_Md_press_72 : decode b_Md_press 72 = .ok (.iload_n 1, 1) := by decide +kernel
theorem d_Md_press_73 : decode b_Md_press 73 = .ok (.iconst (2), 1) := by decide +kernel
theorem d_Md_press_74 : decode b_Md_press 74 = .ok (.iconst (4), 1) := by decide +kernel
theorem d_Md_press_75 : decode b_Md_press 75 = .ok (.iload_n 2, 1) := by decide +kernel
theorem d_Md_press_76 : decode b_Md_press 76 = .ok (.imul, 1) := by decide +kernel
theorem d_Md_press_77 : decode b_Md_press 77 = .ok (.iload_n 3, 1) := by decide +kernel
theorem d_Md_press_78 : decode b_Md_press 78 = .ok (.iconst (3), 1) := by decide +kernel
theorem d_Md_press_79 : decode b_Md_press 79 = .ok (.iand, 1) := by decide +kernel
theorem d_Md_press_80 : decode b_Md_press 80 = .ok (.iadd, 1) := by decide +kernel
theorem d_Md_press_81 : decode b_Md_press 81 = .ok (.iconst (0), 1) := by decide +kernel
theorem d_Md_press_82 : decode b_Md_press 82 = .ok (.invokevirtual 220, 3) := by decide +kernel
theorem d_Md_press_85 : decode b_Md_press 85 = .ok (.return_, 1) := by decide +kernel
theorem d_Md_release_0 : decode b_Md_release 0 = .ok (.aload_n 0, 1) := by decide +kernel
theorem d_Md_release_1 : decode b_Md_release 1 = .ok (.iload_n 1, 1) := by decide +kernel
theorem d_Md_release_2 : decode b_Md_release 2 = .ok (.bipush (8), 2) := by decide +kernel
theorem d_Md_release_4 : decode b_Md_release 4 = .ok (.invokestatic 216, 3) := by decide +kernel
theorem d_Md_release_7 : decode b_Md_release 7 = .ok (.ifCond .eq (7), 3) := by decide +kernel
theorem d_Md_release_10 : decode b_Md_release 10 = .ok (.iconst (0), 1) := by decide +kernel
theorem d_Md_release_11 : decode b_Md_release 11 = .ok (.goto (4), 3) := by decide +kernel
theorem d_Md_release_14 : decode b_Md_release 14 = .ok (.iconst (1), 1) := by decide +kernel
theorem d_Md_release_15 : decode b_Md_release 15 = .ok (.putfield 7, 3) := by decide +kernel
theorem d_Md_release_18 : decode b_Md_release 18 = .ok (.aload_n 0, 1) := by decide +kernel
theorem d_Md_release_19 : decode b_Md_release 19 = .ok (.getfield 7, 3) := by decide +kernel
theorem d_Md_release_22 : decode b_Md_release 22 = .ok (.ifCond .ne (25), 3) := by decide +kernel
theorem d_Md_release_25 : decode b_Md_release 25 = .ok (.aload_n 0, 1) := by decide +kernel
theorem d_Md_release_26 : decode b_Md_release 26 = .ok (.getfield 67, 3) := by decide +kernel
theorem d_Md_release_29 : decode b_Md_release 29 = .ok (.iload_n 1, 1) := by decide +kernel
theorem d_Md_release_30 : decode b_Md_release 30 = .ok (.iconst (-1), 1) := by decide +kernel
theorem d_Md_release_31 : decode b_Md_release 31 = .ok (.iastore, 1) := by decide +kernel
theorem d_Md_release_32 : decode b_Md_release 32 = .ok (.aload_n 0, 1) := by decide +kernel
theorem d_Md_release_33 : decode b_Md_release 33 = .ok (.getfield 39, 3) := by decide +kernel
theorem d_Md_release_36 : decode b_Md_release 36 = .ok (.iload_n 1, 1) := by decide +kernel
theorem d_Md_release_37 : decode b_Md_release 37 = .ok (.iaload, 1) := by decide +kernel
theorem d_Md_release_38 : decode b_Md_release 38 = .ok (.iconst (2), 1) := by decide +kernel
theorem d_Md_release_39 : decode b_Md_release 39 = .ok (.if_icmp .ne (8), 3) := by decide +kernel
theorem d_Md_release_42 : decode b_Md_release 42 = .ok (.aload_n 0, 1) := by decide +kernel
theorem d_Md_release_43 : decode b_Md_release 43 = .ok (.iload_n 1, 1) := by decide +kernel
theorem d_Md_release_44 : decode b_Md_release 44 = .ok (.invokevirtual 181, 3) := by decide +kernel
theorem d_Md_release_47 : decode b_Md_release 47 = .ok (.return_, 1) := by decide +kernel
theorem d_Md_send_0 : decode b_Md_send 0 = .ok (.aload_n 0, 1) := by decide +kernel
theorem d_Md_send_1 : decode b_Md_send 1 = .ok (.iload_n 1, 1) := by decide +kernel
theorem d_Md_send_2 : decode b_Md_send 2 = .ok (.bipush (8), 2) := by decide +kernel
theorem d_Md_send_4 : decode b_Md_send 4 = .ok (.invokestatic 216, 3) := by decide +kernel
theorem d_Md_send_7 : decode b_Md_send 7 = .ok (.ifCond .eq (12), 3) := by decide +kernel
theorem d_Md_send_10 : decode b_Md_send 10 = .ok (.iload_n 2, 1) := by decide +kernel
theorem d_Md_send_11 : decode b_Md_send 11 = .ok (.bipush (8), 2) := by decide +kernel
theorem d_Md_send_13 : decode b_Md_send 13 = .ok (.invokestatic 216, 3) := by decide +kernel
theorem d_Md_send_16 : decode b_Md_send 16 = .ok (.ifCond .ne (7), 3) := by decide +kernel
theorem d_Md_send_19 : decode b_Md_send 19 = .ok (.iconst (1), 1) := by decide +kernel
theorem d_Md_send_20 : decode b_Md_send 20 = .ok (.goto (26), 3) := by decide +kernel
theorem d_Md_send_23 : decode b_Md_send 23 = .ok (.aload_n 0, 1) := by decide +kernel
theorem d_Md_send_24 : decode b_Md_send 24 = .ok (.getfield 27, 3) := by decide +kernel
theorem d_Md_send_27 : decode b_Md_send 27 = .ok (.iload_n 1, 1) := by decide +kernel
theorem d_Md_send_28 : decode b_Md_send 28 = .ok (.iaload, 1) := by decide +kernel
theorem d_Md_send_29 : decode b_Md_send 29 = .ok (.ifCond .lt (12), 3) := by decide +kernel
theorem d_Md_send_32 : decode b_Md_send 32 = .ok (.aload_n 0, 1) := by decide +kernel
theorem d_Md_send_33 : decode b_Md_send 33 = .ok (.getfield 39, 3) := by decide +kernel
theorem d_Md_send_36 : decode b_Md_send 36 = .ok (.iload_n 1, 1) := by decide +kernel
theorem d_Md_send_37 : decode b_Md_send 37 = .ok (.iaload, 1) := by decide +kernel
theorem d_Md_send_38 : decode b_Md_send 38 = .ok (.ifCond .le (7), 3) := by decide +kernel
theorem d_Md_send_41 : decode b_Md_send 41 = .ok (.iconst (2), 1) := by decide +kernel
theorem d_Md_send_42 : decode b_Md_send 42 = .ok (.goto (4), 3) := by decide +kernel
theorem d_Md_send_45 : decode b_Md_send 45 = .ok (.iconst (0), 1) := by decide +kernel
theorem d_Md_send_46 : decode b_Md_send 46 = .ok (.putfield 7, 3) := by decide +kernel
theorem d_Md_send_49 : decode b_Md_send 49 = .ok (.aload_n 0, 1) := by decide +kernel
theorem d_Md_send_50 : decode b_Md_send 50 = .ok (.getfield 7, 3) := by decide +kernel
theorem d_Md_send_53 : decode b_Md_send 53 = .ok (.ifCond .ne (15), 3) := by decide +kernel
theorem d_Md_send_56 : decode b_Md_send 56 = .ok (.aload_n 0, 1) := by decide +kernel
theorem d_Md_send_57 : decode b_Md_send 57 = .ok (.iload_n 1, 1) := by decide +kernel
theorem d_Md_send_58 : decode b_Md_send 58 = .ok (.iconst (3), 1) := by decide +kernel
theorem d_Md_send_59 : decode b_Md_send 59 = .ok (.iload_n 2, 1) := by decide +kernel
theorem d_Md_send_60 : decode b_Md_send 60 = .ok (.iload_n 3, 1) := by decide +kernel
theorem d_Md_send_61 : decode b_Md_send 61 = .ok (.sipush (511), 3) := by decide +kernel
theorem d_Md_send_64 : decode b_Md_send 64 = .ok (.iand, 1) := by decide +kernel
theorem d_Md_send_65 : decode b_Md_send 65 = .ok (.invokevirtual 220, 3) := by decide +kernel
theorem d_Md_send_68 : decode b_Md_send 68 = .ok (.return_, 1) := by decide +kernel
theorem d_Md_speak_0 : decode b_Md_speak 0 = .ok (.aload_n 0, 1) := by decide +kernel
theorem d_Md_speak_1 : decode b_Md_speak 1 = .ok (.iload_n 1, 1) := by decide +kernel
theorem d_Md_speak_2 : decode b_Md_speak 2 = .ok (.bipush (8), 2) := by decide +kernel
theorem d_Md_speak_4 : decode b_Md_speak 4 = .ok (.invokestatic 216, 3) := by decide +kernel
theorem d_Md_speak_7 : decode b_Md_speak 7 = .ok (.ifCond .eq (7), 3) := by decide +kernel
theorem d_Md_speak_10 : decode b_Md_speak 10 = .ok (.iconst (0), 1) := by decide +kernel
theorem d_Md_speak_11 : decode b_Md_speak 11 = .ok (.goto (4), 3) := by decide +kernel
theorem d_Md_speak_14 : decode b_Md_speak 14 = .ok (.iconst (1), 1) := by decide +kernel
theorem d_Md_speak_15 : decode b_Md_speak 15 = .ok (.putfield 7, 3) := by decide +kernel
theorem d_Md_speak_18 : decode b_Md_speak 18 = .ok (.aload_n 0, 1) := by decide +kernel
theorem d_Md_speak_19 : decode b_Md_speak 19 = .ok (.getfield 7, 3) := by decide +kernel
theorem d_Md_speak_22 : decode b_Md_speak 22 = .ok (.ifCond .ne (13), 3) := by decide +kernel
theorem d_Md_speak_25 : decode b_Md_speak 25 = .ok (.aload_n 0, 1) := by decide +kernel
theorem d_Md_speak_26 : decode b_Md_speak 26 = .ok (.getfield 70, 3) := by decide +kernel
theorem d_Md_speak_29 : decode b_Md_speak 29 = .ok (.iload_n 1, 1) := by decide +kernel
theorem d_Md_speak_30 : decode b_Md_speak 30 = .ok (.iload_n 2, 1) := by decide +kernel
theorem d_Md_speak_31 : decode b_Md_speak 31 = .ok (.ldc 205, 2) := by decide +kernel
theorem d_Md_speak_33 : decode b_Md_speak 33 = .ok (.iand, 1) := by decide +kernel
theorem d_Md_speak_34 : decode b_Md_speak 34 = .ok (.iastore, 1) := by decide +kernel
theorem d_Md_speak_35 : decode b_Md_speak 35 = .ok (.return_, 1) := by decide +kernel
theorem d_Md_draw_0 : decode b_Md_draw 0 = .ok (.aload_n 0, 1) := by decide +kernel
theorem d_Md_draw_1 : decode b_Md_draw 1 = .ok (.iload_n 1, 1) := by decide +kernel
theorem d_Md_draw_2 : decode b_Md_draw 2 = .ok (.bipush (8), 2) := by decide +kernel
theorem d_Md_draw_4 : decode b_Md_draw 4 = .ok (.invokestatic 216, 3) := by decide +kernel
theorem d_Md_draw_7 : decode b_Md_draw 7 = .ok (.ifCond .ne (7), 3) := by decide +kernel
theorem d_Md_draw_10 : decode b_Md_draw 10 = .ok (.iconst (1), 1) := by decide +kernel
theorem d_Md_draw_11 : decode b_Md_draw 11 = .ok (.goto (32), 3) := by decide +kernel
theorem d_Md_draw_14 : decode b_Md_draw 14 = .ok (.iload_n 2, 1) := by decide +kernel
theorem d_Md_draw_15 : decode b_Md_draw 15 = .ok (.bipush (16), 2) := by decide +kernel
theorem d_Md_draw_17 : decode b_Md_draw 17 = .ok (.invokestatic 216, 3) := by decide +kernel
theorem d_Md_draw_20 : decode b_Md_draw 20 = .ok (.ifCond .ne (7), 3) := by decide +kernel
theorem d_Md_draw_23 : decode b_Md_draw 23 = .ok (.iconst (2), 1) := by decide +kernel
theorem d_Md_draw_24 : decode b_Md_draw 24 = .ok (.goto (19), 3) := by decide +kernel
theorem d_Md_draw_27 : decode b_Md_draw 27 = .ok (.aload_n 0, 1) := by decide +kernel
theorem d_Md_draw_28 : decode b_Md_draw 28 = .ok (.getfield 76, 3) := by decide +kernel
theorem d_Md_draw_31 : decode b_Md_draw 31 = .ok (.iload_n 1, 1) := by decide +kernel
theorem d_Md_draw_32 : decode b_Md_draw 32 = .ok (.iaload, 1) := by decide +kernel
theorem d_Md_draw_33 : decode b_Md_draw 33 = .ok (.bipush (8), 2) := by decide +kernel
theorem d_Md_draw_35 : decode b_Md_draw 35 = .ok (.if_icmp .ne (7), 3) := by decide +kernel
theorem d_Md_draw_38 : decode b_Md_draw 38 = .ok (.iconst (3), 1) := by decide +kernel
theorem d_Md_draw_39 : decode b_Md_draw 39 = .ok (.goto (4), 3) := by decide +kernel
theorem d_Md_draw_42 : decode b_Md_draw 42 = .ok (.iconst (0), 1) := by decide +kernel
theorem d_Md_draw_43 : decode b_Md_draw 43 = .ok (.putfield 7, 3) := by decide +kernel
theorem d_Md_draw_46 : decode b_Md_draw 46 = .ok (.aload_n 0, 1) := by decide +kernel
theorem d_Md_draw_47 : decode b_Md_draw 47 = .ok (.getfield 7, 3) := by decide +kernel
theorem d_Md_draw_50 : decode b_Md_draw 50 = .ok (.ifCond .ne (34), 3) := by decide +kernel
theorem d_Md_draw_53 : decode b_Md_draw 53 = .ok (.aload_n 0, 1) := by decide +kernel
theorem d_Md_draw_54 : decode b_Md_draw 54 = .ok (.getfield 73, 3) := by decide +kernel
theorem d_Md_draw_57 : decode b_Md_draw 57 = .ok (.bipush (8), 2) := by decide +kernel
theorem d_Md_draw_59 : decode b_Md_draw 59 = .ok (.iload_n 1, 1) := by decide +kernel
theorem d_Md_draw_60 : decode b_Md_draw 60 = .ok (.imul, 1) := by decide +kernel
theorem d_Md_draw_61 : decode b_Md_draw 61 = .ok (.aload_n 0, 1) := by decide +kernel
theorem d_Md_draw_62 : decode b_Md_draw 62 = .ok (.getfield 76, 3) := by decide +kernel
theorem d_Md_draw_65 : decode b_Md_draw 65 = .ok (.iload_n 1, 1) := by decide +kernel
theorem d_Md_draw_66 : decode b_Md_draw 66 = .ok (.iaload, 1) := by decide +kernel
theorem d_Md_draw_67 : decode b_Md_draw 67 = .ok (.iadd, 1) := by decide +kernel
theorem d_Md_draw_68 : decode b_Md_draw 68 = .ok (.iload_n 2, 1) := by decide +kernel
theorem d_Md_draw_69 : decode b_Md_draw 69 = .ok (.iastore, 1) := by decide +kernel
theorem d_Md_draw_70 : decode b_Md_draw 70 = .ok (.aload_n 0, 1) := by decide +kernel
theorem d_Md_draw_71 : decode b_Md_draw 71 = .ok (.getfield 76, 3) := by decide +kernel
theorem d_Md_draw_74 : decode b_Md_draw 74 = .ok (.iload_n 1, 1) := by decide +kernel
theorem d_Md_draw_75 : decode b_Md_draw 75 = .ok (.aload_n 0, 1) := by decide +kernel
theorem d_Md_draw_76 : decode b_Md_draw 76 = .ok (.getfield 76, 3) := by decide +kernel
theorem d_Md_draw_79 : decode b_Md_draw 79 = .ok (.iload_n 1, 1) := by decide +kernel
theorem d_Md_draw_80 : decode b_Md_draw 80 = .ok (.iaload, 1) := by decide +kernel
theorem d_Md_draw_81 : decode b_Md_draw 81 = .ok (.iconst (1), 1) := by decide +kernel
theorem d_Md_draw_82 : decode b_Md_draw 82 = .ok (.iadd, 1) := by decide +kernel
theorem d_Md_draw_83 : decode b_Md_draw 83 = .ok (.iastore, 1) := by decide +kernel
theorem d_Md_draw_84 : decode b_Md_draw 84 = .ok (.return_, 1) := by decide +kernel
theorem d_Md_fault_0 : decode b_Md_fault 0 = .ok (.aload_n 0, 1) := by decide +kernel
theorem d_Md_fault_1 : decode b_Md_fault 1 = .ok (.iload_n 1, 1) := by decide +kernel
theorem d_Md_fault_2 : decode b_Md_fault 2 = .ok (.bipush (11), 2) := by decide +kernel
theorem d_Md_fault_4 : decode b_Md_fault 4 = .ok (.invokestatic 216, 3) := by decide +kernel
theorem d_Md_fault_7 : decode b_Md_fault 7 = .ok (.ifCond .eq (7), 3) := by decide +kernel
theorem d_Md_fault_10 : decode b_Md_fault 10 = .ok (.iconst (0), 1) := by decide +kernel
theorem d_Md_fault_11 : decode b_Md_fault 11 = .ok (.goto (4), 3) := by decide +kernel
theorem d_Md_fault_14 : decode b_Md_fault 14 = .ok (.iconst (1), 1) := by decide +kernel
theorem d_Md_fault_15 : decode b_Md_fault 15 = .ok (.putfield 7, 3) := by decide +kernel
theorem d_Md_fault_18 : decode b_Md_fault 18 = .ok (.aload_n 0, 1) := by decide +kernel
theorem d_Md_fault_19 : decode b_Md_fault 19 = .ok (.getfield 7, 3) := by decide +kernel
theorem d_Md_fault_22 : decode b_Md_fault 22 = .ok (.ifCond .ne (14), 3) := by decide +kernel
theorem d_Md_fault_25 : decode b_Md_fault 25 = .ok (.aload_n 0, 1) := by decide +kernel
theorem d_Md_fault_26 : decode b_Md_fault 26 = .ok (.getfield 94, 3) := by decide +kernel
theorem d_Md_fault_29 : decode b_Md_fault 29 = .ok (.iload_n 1, 1) := by decide +kernel
theorem d_Md_fault_30 : decode b_Md_fault 30 = .ok (.lload_n 2, 1) := by decide +kernel
theorem d_Md_fault_31 : decode b_Md_fault 31 = .ok (.ldc2_w 224, 3) := by decide +kernel
theorem d_Md_fault_34 : decode b_Md_fault 34 = .ok (.land, 1) := by decide +kernel
theorem d_Md_fault_35 : decode b_Md_fault 35 = .ok (.lastore, 1) := by decide +kernel
theorem d_Md_fault_36 : decode b_Md_fault 36 = .ok (.return_, 1) := by decide +kernel
theorem d_Md_tick_0 : decode b_Md_tick 0 = .ok (.aload_n 0, 1) := by decide +kernel
theorem d_Md_tick_1 : decode b_Md_tick 1 = .ok (.iload_n 1, 1) := by decide +kernel
theorem d_Md_tick_2 : decode b_Md_tick 2 = .ok (.ifCond .lt (21), 3) := by decide +kernel
theorem d_Md_tick_5 : decode b_Md_tick 5 = .ok (.iload_n 1, 1) := by decide +kernel
theorem d_Md_tick_6 : decode b_Md_tick 6 = .ok (.sipush (200), 3) := by decide +kernel
theorem d_Md_tick_9 : decode b_Md_tick 9 = .ok (.if_icmp .gt (14), 3) := by decide +kernel
theorem d_Md_tick_12 : decode b_Md_tick 12 = .ok (.aload_n 0, 1) := by decide +kernel
theorem d_Md_tick_13 : decode b_Md_tick 13 = .ok (.getfield 122, 3) := by decide +kernel
theorem d_Md_tick_16 : decode b_Md_tick 16 = .ok (.ldc 226, 2) := by decide +kernel
theorem d_Md_tick_18 : decode b_Md_tick 18 = .ok (.iload_n 1, 1) := by decide +kernel
theorem d_Md_tick_19 : decode b_Md_tick 19 = .ok (.isub, 1) := by decide +kernel
theorem d_Md_tick_20 : decode b_Md_tick 20 = .ok (.if_icmp .le (7), 3) := by decide +kernel
theorem d_Md_tick_23 : decode b_Md_tick 23 = .ok (.iconst (1), 1) := by decide +kernel
theorem d_Md_tick_24 : decode b_Md_tick 24 = .ok (.goto (4), 3) := by decide +kernel
theorem d_Md_tick_27 : decode b_Md_tick 27 = .ok (.iconst (0), 1) := by decide +kernel
theorem d_Md_tick_28 : decode b_Md_tick 28 = .ok (.putfield 7, 3) := by decide +kernel
theorem d_Md_tick_31 : decode b_Md_tick 31 = .ok (.aload_n 0, 1) := by decide +kernel
theorem d_Md_tick_32 : decode b_Md_tick 32 = .ok (.getfield 7, 3) := by decide +kernel
theorem d_Md_tick_35 : decode b_Md_tick 35 = .ok (.ifCond .eq (5), 3) := by decide +kernel
theorem d_Md_tick_38 : decode b_Md_tick 38 = .ok (.iconst (0), 1) := by decide +kernel
theorem d_Md_tick_39 : decode b_Md_tick 39 = .ok (.ireturn, 1) := by decide +kernel
theorem d_Md_tick_40 : decode b_Md_tick 40 = .ok (.iconst (0), 1) := by decide +kernel
theorem d_Md_tick_41 : decode b_Md_tick 41 = .ok (.istore_n 2, 1) := by decide +kernel
theorem d_Md_tick_42 : decode b_Md_tick 42 = .ok (.iload_n 2, 1) := by decide +kernel
theorem d_Md_tick_43 : decode b_Md_tick 43 = .ok (.iload_n 1, 1) := by decide +kernel
theorem d_Md_tick_44 : decode b_Md_tick 44 = .ok (.if_icmp .ge (13), 3) := by decide +kernel
theorem d_Md_tick_47 : decode b_Md_tick 47 = .ok (.aload_n 0, 1) := by decide +kernel
theorem d_Md_tick_48 : decode b_Md_tick 48 = .ok (.invokevirtual 227, 3) := by decide +kernel
theorem d_Md_tick_51 : decode b_Md_tick 51 = .ok (.iinc 2 (1), 3) := by decide +kernel
theorem d_Md_tick_54 : decode b_Md_tick 54 = .ok (.goto (-12), 3) := by decide +kernel
theorem d_Md_tick_57 : decode b_Md_tick 57 = .ok (.aload_n 0, 1) := by decide +kernel
theorem d_Md_tick_58 : decode b_Md_tick 58 = .ok (.getfield 122, 3) := by decide +kernel
theorem d_Md_tick_61 : decode b_Md_tick 61 = .ok (.ireturn, 1) := by decide +kernel
theorem d_Md_mobile_0 : decode b_Md_mobile 0 = .ok (.aload_n 0, 1) := by decide +kernel
theorem d_Md_mobile_1 : decode b_Md_mobile 1 = .ok (.iconst (0), 1) := by decide +kernel
theorem d_Md_mobile_2 : decode b_Md_mobile 2 = .ok (.putfield 7, 3) := by decide +kernel
theorem d_Md_mobile_5 : decode b_Md_mobile 5 = .ok (.iload_n 1, 1) := by decide +kernel
theorem d_Md_mobile_6 : decode b_Md_mobile 6 = .ok (.bipush (8), 2) := by decide +kernel
theorem d_Md_mobile_8 : decode b_Md_mobile 8 = .ok (.invokestatic 216, 3) := by decide +kernel
theorem d_Md_mobile_11 : decode b_Md_mobile 11 = .ok (.ifCond .ne (5), 3) := by decide +kernel
theorem d_Md_mobile_14 : decode b_Md_mobile 14 = .ok (.iconst (-1), 1) := by decide +kernel
theorem d_Md_mobile_15 : decode b_Md_mobile 15 = .ok (.ireturn, 1) := by decide +kernel
theorem d_Md_mobile_16 : decode b_Md_mobile 16 = .ok (.iload_n 2, 1) := by decide +kernel
theorem d_Md_mobile_17 : decode b_Md_mobile 17 = .ok (.tableswitch (195) (0) (13) #[71, 78, 85, 105, 125, 132, 139, 146, 153, 160, 167, 174, 181, 188], 71) := by decide +kernel
theorem d_Md_mobile_88 : decode b_Md_mobile 88 = .ok (.aload_n 0, 1) := by decide +kernel
theorem d_Md_mobile_89 : decode b_Md_mobile 89 = .ok (.getfield 27, 3) := by decide +kernel
theorem d_Md_mobile_92 : decode b_Md_mobile 92 = .ok (.iload_n 1, 1) := by decide +kernel
theorem d_Md_mobile_93 : decode b_Md_mobile 93 = .ok (.iaload, 1) := by decide +kernel
theorem d_Md_mobile_94 : decode b_Md_mobile 94 = .ok (.ireturn, 1) := by decide +kernel
theorem d_Md_mobile_95 : decode b_Md_mobile 95 = .ok (.aload_n 0, 1) := by decide +kernel
theorem d_Md_mobile_96 : decode b_Md_mobile 96 = .ok (.getfield 58, 3) := by decide +kernel
theorem d_Md_mobile_99 : decode b_Md_mobile 99 = .ok (.iload_n 1, 1) := by decide +kernel
theorem d_Md_mobile_100 : decode b_Md_mobile 100 = .ok (.iaload, 1) := by decide +kernel
theorem d_Md_mobile_101 : decode b_Md_mobile 101 = .ok (.ireturn, 1) := by decide +kernel
theorem d_Md_mobile_102 : decode b_Md_mobile 102 = .ok (.aload_n 0, 1) := by decide +kernel
theorem d_Md_mobile_103 : decode b_Md_mobile 103 = .ok (.getfield 58, 3) := by decide +kernel
theorem d_Md_mobile_106 : decode b_Md_mobile 106 = .ok (.iload_n 1, 1) := by decide +kernel
theorem d_Md_mobile_107 : decode b_Md_mobile 107 = .ok (.iaload, 1) := by decide +kernel
theorem d_Md_mobile_108 : decode b_Md_mobile 108 = .ok (.ifCond .ne (7), 3) := by decide +kernel
theorem d_Md_mobile_111 : decode b_Md_mobile 111 = .ok (.iconst (-1), 1) := by decide +kernel
theorem d_Md_mobile_112 : decode b_Md_mobile 112 = .ok (.goto (9), 3) := by decide +kernel
theorem d_Md_mobile_115 : decode b_Md_mobile 115 = .ok (.aload_n 0, 1) := by decide +kernel
theorem d_Md_mobile_116 : decode b_Md_mobile 116 = .ok (.getfield 61, 3) := by decide +kernel
theorem d_Md_mobile_119 : decode b_Md_mobile 119 = .ok (.iload_n 1, 1) := by decide +kernel
theorem d_Md_mobile_120 : decode b_Md_mobile 120 = .ok (.iaload, 1) := by decide +kernel
theorem d_Md_mobile_121 : decode b_Md_mobile 121 = .ok (.ireturn, 1) := by decide +kernel
theorem d_Md_mobile_122 : decode b_Md_mobile 122 = .ok (.aload_n 0, 1) := by decide +kernel
theorem d_Md_mobile_123 : decode b_Md_mobile 123 = .ok (.getfield 58, 3) := by decide +kernel
theorem d_Md_mobile_126 : decode b_Md_mobile 126 = .ok (.iload_n 1, 1) := by decide +kernel
theorem d_Md_mobile_127 : decode b_Md_mobile 127 = .ok (.iaload, 1) := by decide +kernel
theorem d_Md_mobile_128 : decode b_Md_mobile 128 = .ok (.ifCond .ne (7), 3) := by decide +kernel
theorem d_Md_mobile_131 : decode b_Md_mobile 131 = .ok (.iconst (-1), 1) := by decide +kernel
theorem d_Md_mobile_132 : decode b_Md_mobile 132 = .ok (.goto (9), 3) := by decide +kernel
theorem d_Md_mobile_135 : decode b_Md_mobile 135 = .ok (.aload_n 0, 1) := by decide +kernel
theorem d_Md_mobile_136 : decode b_Md_mobile 136 = .ok (.getfield 64, 3) := by decide +kernel
theorem d_Md_mobile_139 : decode b_Md_mobile 139 = .ok (.iload_n 1, 1) := by decide +kernel
theorem d_Md_mobile_140 : decode b_Md_mobile 140 = .ok (.iaload, 1) := by decide +kernel
theorem d_Md_mobile_141 : decode b_Md_mobile 141 = .ok (.ireturn, 1) := by decide +kernel
theorem d_Md_mobile_142 : decode b_Md_mobile 142 = .ok (.aload_n 0, 1) := by decide +kernel
theorem d_Md_mobile_143 : decode b_Md_mobile 143 = .ok (.getfield 67, 3) := by decide +kernel
theorem d_Md_mobile_146 : decode b_Md_mobile 146 = .ok (.iload_n 1, 1) := by decide +kernel
theorem d_Md_mobile_147 : decode b_Md_mobile 147 = .ok (.iaload, 1) := by decide +kernel
theorem d_Md_mobile_148 : decode b_Md_mobile 148 = .ok (.ireturn, 1) := by decide +kernel
theorem d_Md_mobile_149 : decode b_Md_mobile 149 = .ok (.aload_n 0, 1) := by decide +kernel
theorem d_Md_mobile_150 : decode b_Md_mobile 150 = .ok (.getfield 39, 3) := by decide +kernel
theorem d_Md_mobile_153 : decode b_Md_mobile 153 = .ok (.iload_n 1, 1) := by decide +kernel
theorem d_Md_mobile_154 : decode b_Md_mobile 154 = .ok (.iaload, 1) := by decide +kernel
theorem d_Md_mobile_155 : decode b_Md_mobile 155 = .ok (.ireturn, 1) := by decide +kernel
theorem d_Md_mobile_156 : decode b_Md_mobile 156 = .ok (.aload_n 0, 1) := by decide +kernel
theorem d_Md_mobile_157 : decode b_Md_mobile 157 = .ok (.getfield 48, 3) := by decide +kernel
theorem d_Md_mobile_160 : decode b_Md_mobile 160 = .ok (.iload_n 1, 1) := by decide +kernel
theorem d_Md_mobile_161 : decode b_Md_mobile 161 = .ok (.iaload, 1) := by decide +kernel
theorem d_Md_mobile_162 : decode b_Md_mobile 162 = .ok (.ireturn, 1) := by decide +kernel
theorem d_Md_mobile_163 : decode b_Md_mobile 163 = .ok (.aload_n 0, 1) := by decide +kernel
theorem d_Md_mobile_164 : decode b_Md_mobile 164 = .ok (.getfield 51, 3) := by decide +kernel
theorem d_Md_mobile_167 : decode b_Md_mobile 167 = .ok (.iload_n 1, 1) := by decide +kernel
theorem d_Md_mobile_168 : decode b_Md_mobile 168 = .ok (.iaload, 1) := by decide +kernel
theorem d_Md_mobile_169 : decode b_Md_mobile 169 = .ok (.ireturn, 1) := by decide +kernel
theorem d_Md_mobile_170 : decode b_Md_mobile 170 = .ok (.aload_n 0, 1) := by decide +kernel
theorem d_Md_mobile_171 : decode b_Md_mobile 171 = .ok (.getfield 79, 3) := by decide +kernel
theorem d_Md_mobile_174 : decode b_Md_mobile 174 = .ok (.iload_n 1, 1) := by decide +kernel
theorem d_Md_mobile_175 : decode b_Md_mobile 175 = .ok (.iaload, 1) := by decide +kernel
theorem d_Md_mobile_176 : decode b_Md_mobile 176 = .ok (.ireturn, 1) := by decide +kernel
theorem d_Md_mobile_177 : decode b_Md_mobile 177 = .ok (.aload_n 0, 1) := by decide +kernel
theorem d_Md_mobile_178 : decode b_Md_mobile 178 = .ok (.getfield 82, 3) := by decide +kernel
theorem d_Md_mobile_181 : decode b_Md_mobile 181 = .ok (.iload_n 1, 1) := by decide +kernel
theorem d_Md_mobile_182 : decode b_Md_mobile 182 = .ok (.iaload, 1) := by decide +kernel
theorem d_Md_mobile_183 : decode b_Md_mobile 183 = .ok (.ireturn, 1) := by decide +kernel
theorem d_Md_mobile_184 : decode b_Md_mobile 184 = .ok (.aload_n 0, 1) := by decide +kernel
theorem d_Md_mobile_185 : decode b_Md_mobile 185 = .ok (.getfield 85, 3) := by decide +kernel
theorem d_Md_mobile_188 : decode b_Md_mobile 188 = .ok (.iload_n 1, 1) := by decide +kernel
theorem d_Md_mobile_189 : decode b_Md_mobile 189 = .ok (.iaload, 1) := by decide +kernel
theorem d_Md_mobile_190 : decode b_Md_mobile 190 = .ok (.ireturn, 1) := by decide +kernel
theorem d_Md_mobile_191 : decode b_Md_mobile 191 = .ok (.aload_n 0, 1) := by decide +kernel
theorem d_Md_mobile_192 : decode b_Md_mobile 192 = .ok (.getfield 88, 3) := by decide +kernel
theorem d_Md_mobile_195 : decode b_Md_mobile 195 = .ok (.iload_n 1, 1) := by decide +kernel
theorem d_Md_mobile_196 : decode b_Md_mobile 196 = .ok (.iaload, 1) := by decide +kernel
theorem d_Md_mobile_197 : decode b_Md_mobile 197 = .ok (.ireturn, 1) := by decide +kernel
theorem d_Md_mobile_198 : decode b_Md_mobile 198 = .ok (.aload_n 0, 1) := by decide +kernel
theorem d_Md_mobile_199 : decode b_Md_mobile 199 = .ok (.getfield 76, 3) := by decide +kernel
theorem d_Md_mobile_202 : decode b_Md_mobile 202 = .ok (.iload_n 1, 1) := by decide +kernel
theorem d_Md_mobile_203 : decode b_Md_mobile 203 = .ok (.iaload, 1) := by decide +kernel
theorem d_Md_mobile_204 : decode b_Md_mobile 204 = .ok (.ireturn, 1) := by decide +kernel
theorem d_Md_mobile_205 : decode b_Md_mobile 205 = .ok (.aload_n 0, 1) := by decide +kernel
theorem d_Md_mobile_206 : decode b_Md_mobile 206 = .ok (.getfield 91, 3) := by decide +kernel
theorem d_Md_mobile_209 : decode b_Md_mobile 209 = .ok (.iload_n 1, 1) := by decide +kernel
theorem d_Md_mobile_210 : decode b_Md_mobile 210 = .ok (.iaload, 1) := by decide +kernel
theorem d_Md_mobile_211 : decode b_Md_mobile 211 = .ok (.ireturn, 1) := by decide +kernel
theorem d_Md_mobile_212 : decode b_Md_mobile 212 = .ok (.iconst (-1), 1) := by decide +kernel
theorem d_Md_mobile_213 : decode b_Md_mobile 213 = .ok (.ireturn, 1) := by decide +kernel
theorem d_Md_call_0 : decode b_Md_call 0 = .ok (.aload_n 0, 1) := by decide +kernel
theorem d_Md_call_1 : decode b_Md_call 1 = .ok (.iconst (0), 1) := by decide +kernel
theorem d_Md_call_2 : decode b_Md_call 2 = .ok (.putfield 7, 3) := by decide +kernel
theorem d_Md_call_5 : decode b_Md_call 5 = .ok (.iload_n 1, 1) := by decide +kernel
theorem d_Md_call_6 : decode b_Md_call 6 = .ok (.iconst (4), 1) := by decide +kernel
theorem d_Md_call_7 : decode b_Md_call 7 = .ok (.invokestatic 216, 3) := by decide +kernel
theorem d_Md_call_10 : decode b_Md_call 10 = .ok (.ifCond .eq (11), 3) := by decide +kernel
theorem d_Md_call_13 : decode b_Md_call 13 = .ok (.iload_n 2, 1) := by decide +kernel
theorem d_Md_call_14 : decode b_Md_call 14 = .ok (.iconst (4), 1) := by decide +kernel
theorem d_Md_call_15 : decode b_Md_call 15 = .ok (.invokestatic 216, 3) := by decide +kernel
theorem d_Md_call_18 : decode b_Md_call 18 = .ok (.ifCond .ne (5), 3) := by decide +kernel
theorem d_Md_call_21 : decode b_Md_call 21 = .ok (.iconst (-1), 1) := by decide +kernel
theorem d_Md_call_22 : decode b_Md_call 22 = .ok (.ireturn, 1) := by decide +kernel
theorem d_Md_call_23 : decode b_Md_call 23 = .ok (.iload_n 2, 1) := by decide +kernel
theorem d_Md_call_24 : decode b_Md_call 24 = .ok (.iconst (3), 1) := by decide +kernel
theorem d_Md_call_25 : decode b_Md_call 25 = .ok (.if_icmp .ne (10), 3) := by decide +kernel
theorem d_Md_call_28 : decode b_Md_call 28 = .ok (.aload_n 0, 1) := by decide +kernel
theorem d_Md_call_29 : decode b_Md_call 29 = .ok (.getfield 113, 3) := by decide +kernel
theorem d_Md_call_32 : decode b_Md_call 32 = .ok (.iload_n 1, 1) := by decide +kernel
theorem d_Md_call_33 : decode b_Md_call 33 = .ok (.iaload, 1) := by decide +kernel
theorem d_Md_call_34 : decode b_Md_call 34 = .ok (.ireturn, 1) := by decide +kernel
theorem d_Md_call_35 : decode b_Md_call 35 = .ok (.aload_n 0, 1) := by decide +kernel
theorem d_Md_call_36 : decode b_Md_call 36 = .ok (.getfield 101, 3) := by decide +kernel
theorem d_Md_call_39 : decode b_Md_call 39 = .ok (.iload_n 1, 1) := by decide +kernel
theorem d_Md_call_40 : decode b_Md_call 40 = .ok (.iaload, 1) := by decide +kernel
theorem d_Md_call_41 : decode b_Md_call 41 = .ok (.ifCond .ne (5), 3) := by decide +kernel
theorem d_Md_call_44 : decode b_Md_call 44 = .ok (.iconst (-1), 1) := by decide +kernel
theorem d_Md_call_45 : decode b_Md_call 45 = .ok (.ireturn, 1) := by decide +kernel
theorem d_Md_call_46 : decode b_Md_call 46 = .ok (.iload_n 2, 1) := by decide +kernel
theorem d_Md_call_47 : decode b_Md_call 47 = .ok (.ifCond .ne (12), 3) := by decide +kernel
theorem d_Md_call_50 : decode b_Md_call 50 = .ok (.aload_n 0, 1) := by decide +kernel
theorem d_Md_call_51 : decode b_Md_call 51 = .ok (.getfield 101, 3) := by decide +kernel
theorem d_Md_call_54 : decode b_Md_call 54 = .ok (.iload_n 1, 1) := by decide +kernel
theorem d_Md_call_55 : decode b_Md_call 55 = .ok (.iaload, 1) := by decide +kernel
theorem d_Md_call_56 : decode b_Md_call 56 = .ok (.goto (23), 3) := by decide +kernel
theorem d_Md_call_59 : decode b_Md_call 59 = .ok (.iload_n 2, 1) := by decide +kernel
theorem d_Md_call_60 : decode b_Md_call 60 = .ok (.iconst (1), 1) := by decide +kernel
theorem d_Md_call_61 : decode b_Md_call 61 = .ok (.if_icmp .ne (12), 3) := by decide +kernel
theorem d_Md_call_64 : decode b_Md_call 64 = .ok (.aload_n 0, 1) := by decide +kernel
theorem d_Md_call_65 : decode b_Md_call 65 = .ok (.getfield 104, 3) := by decide +kernel
theorem d_Md_call_68 : decode b_Md_call 68 = .ok (.iload_n 1, 1) := by decide +kernel
theorem d_Md_call_69 : decode b_Md_call 69 = .ok (.iaload, 1) := by decide +kernel
theorem d_Md_call_70 : decode b_Md_call 70 = .ok (.goto (9), 3) := by decide +kernel
theorem d_Md_call_73 : decode b_Md_call 73 = .ok (.aload_n 0, 1) := by decide +kernel
theorem d_Md_call_74 : decode b_Md_call 74 = .ok (.getfield 107, 3) := by decide +kernel
theorem d_Md_call_77 : decode b_Md_call 77 = .ok (.iload_n 1, 1) := by decide +kernel
theorem d_Md_call_78 : decode b_Md_call 78 = .ok (.iaload, 1) := by decide +kernel
theorem d_Md_call_79 : decode b_Md_call 79 = .ok (.ireturn, 1) := by decide +kernel
theorem d_Md_waiting_0 : decode b_Md_waiting 0 = .ok (.aload_n 0, 1) := by decide +kernel
theorem d_Md_waiting_1 : decode b_Md_waiting 1 = .ok (.iconst (0), 1) := by decide +kernel
theorem d_Md_waiting_2 : decode b_Md_waiting 2 = .ok (.putfield 7, 3) := by decide +kernel
theorem d_Md_waiting_5 : decode b_Md_waiting 5 = .ok (.iload_n 1, 1) := by decide +kernel
theorem d_Md_waiting_6 : decode b_Md_waiting 6 = .ok (.iconst (4), 1) := by decide +kernel
theorem d_Md_waiting_7 : decode b_Md_waiting 7 = .ok (.invokestatic 216, 3) := by decide +kernel
theorem d_Md_waiting_10 : decode b_Md_waiting 10 = .ok (.ifCond .eq (32), 3) := by decide +kernel
theorem d_Md_waiting_13 : decode b_Md_waiting 13 = .ok (.iload_n 2, 1) := by decide +kernel
theorem d_Md_waiting_14 : decode b_Md_waiting 14 = .ok (.aload_n 0, 1) := by decide +kernel
theorem d_Md_waiting_15 : decode b_Md_waiting 15 = .ok (.getfield 113, 3) := by decide +kernel
theorem d_Md_waiting_18 : decode b_Md_waiting 18 = .ok (.iload_n 1, 1) := by decide +kernel
theorem d_Md_waiting_19 : decode b_Md_waiting 19 = .ok (.iconst (3), 1) := by decide +kernel
theorem d_Md_waiting_20 : decode b_Md_waiting 20 = .ok (.iand, 1) := by decide +kernel
theorem d_Md_waiting_21 : decode b_Md_waiting 21 = .ok (.iaload, 1) := by decide +kernel
theorem d_Md_waiting_22 : decode b_Md_waiting 22 = .ok (.invokestatic 216, 3) := by decide +kernel
theorem d_Md_waiting_25 : decode b_Md_waiting 25 = .ok (.ifCond .eq (17), 3) := by decide +kernel
theorem d_Md_waiting_28 : decode b_Md_waiting 28 = .ok (.aload_n 0, 1) := by decide +kernel
theorem d_Md_waiting_29 : decode b_Md_waiting 29 = .ok (.getfield 110, 3) := by decide +kernel
theorem d_Md_waiting_32 : decode b_Md_waiting 32 = .ok (.bipush (6), 2) := by decide +kernel
theorem d_Md_waiting_34 : decode b_Md_waiting 34 = .ok (.iload_n 1, 1) := by decide +kernel
theorem d_Md_waiting_35 : decode b_Md_waiting 35 = .ok (.imul, 1) := by decide +kernel
theorem d_Md_waiting_36 : decode b_Md_waiting 36 = .ok (.iload_n 2, 1) := by decide +kernel
theorem d_Md_waiting_37 : decode b_Md_waiting 37 = .ok (.iadd, 1) := by decide +kernel
theorem d_Md_waiting_38 : decode b_Md_waiting 38 = .ok (.iaload, 1) := by decide +kernel
theorem d_Md_waiting_39 : decode b_Md_waiting 39 = .ok (.goto (4), 3) := by decide +kernel
theorem d_Md_waiting_42 : decode b_Md_waiting 42 = .ok (.iconst (-1), 1) := by decide +kernel
theorem d_Md_waiting_43 : decode b_Md_waiting 43 = .ok (.ireturn, 1) := by decide +kernel
theorem d_Md_saying_0 : decode b_Md_saying 0 = .ok (.aload_n 0, 1) := by decide +kernel
theorem d_Md_saying_1 : decode b_Md_saying 1 = .ok (.iconst (0), 1) := by decide +kernel
theorem d_Md_saying_2 : decode b_Md_saying 2 = .ok (.putfield 7, 3) := by decide +kernel
theorem d_Md_saying_5 : decode b_Md_saying 5 = .ok (.iload_n 1, 1) := by decide +kernel
theorem d_Md_saying_6 : decode b_Md_saying 6 = .ok (.iconst (3), 1) := by decide +kernel
theorem d_Md_saying_7 : decode b_Md_saying 7 = .ok (.invokestatic 216, 3) := by decide +kernel
theorem d_Md_saying_10 : decode b_Md_saying 10 = .ok (.ifCond .eq (16), 3) := by decide +kernel
theorem d_Md_saying_13 : decode b_Md_saying 13 = .ok (.iload_n 2, 1) := by decide +kernel
theorem d_Md_saying_14 : decode b_Md_saying 14 = .ok (.aload_n 0, 1) := by decide +kernel
theorem d_Md_saying_15 : decode b_Md_saying 15 = .ok (.getfield 119, 3) := by decide +kernel
theorem d_Md_saying_18 : decode b_Md_saying 18 = .ok (.iload_n 1, 1) := by decide +kernel
theorem d_Md_saying_19 : decode b_Md_saying 19 = .ok (.iaload, 1) := by decide +kernel
theorem d_Md_saying_20 : decode b_Md_saying 20 = .ok (.invokestatic 216, 3) := by decide +kernel
theorem d_Md_saying_23 : decode b_Md_saying 23 = .ok (.ifCond .ne (5), 3) := by decide +kernel
theorem d_Md_saying_26 : decode b_Md_saying 26 = .ok (.iconst (-1), 1) := by decide +kernel
theorem d_Md_saying_27 : decode b_Md_saying 27 = .ok (.ireturn, 1) := by decide +kernel
theorem d_Md_saying_28 : decode b_Md_saying 28 = .ok (.aload_n 0, 1) := by decide +kernel
theorem d_Md_saying_29 : decode b_Md_saying 29 = .ok (.getfield 116, 3) := by decide +kernel
theorem d_Md_saying_32 : decode b_Md_saying 32 = .ok (.bipush (9), 2) := by decide +kernel
theorem d_Md_saying_34 : decode b_Md_saying 34 = .ok (.iload_n 1, 1) := by decide +kernel
theorem d_Md_saying_35 : decode b_Md_saying 35 = .ok (.imul, 1) := by decide +kernel
theorem d_Md_saying_36 : decode b_Md_saying 36 = .ok (.iload_n 2, 1) := by decide +kernel
theorem d_Md_saying_37 : decode b_Md_saying 37 = .ok (.iadd, 1) := by decide +kernel
theorem d_Md_saying_38 : decode b_Md_saying 38 = .ok (.iaload, 1) := by decide +kernel
theorem d_Md_saying_39 : decode b_Md_saying 39 = .ok (.ireturn, 1) := by decide +kernel
theorem d_Md_coded_0 : decode b_Md_coded 0 = .ok (.aload_n 0, 1) := by decide +kernel
theorem d_Md_coded_1 : decode b_Md_coded 1 = .ok (.iconst (0), 1) := by decide +kernel
theorem d_Md_coded_2 : decode b_Md_coded 2 = .ok (.putfield 7, 3) := by decide +kernel
theorem d_Md_coded_5 : decode b_Md_coded 5 = .ok (.iload_n 1, 1) := by decide +kernel
theorem d_Md_coded_6 : decode b_Md_coded 6 = .ok (.ldc 230, 2) := by decide +kernel
theorem d_Md_coded_8 : decode b_Md_coded 8 = .ok (.iand, 1) := by decide +kernel
theorem d_Md_coded_9 : decode b_Md_coded 9 = .ok (.iload_n 2, 1) := by decide +kernel
theorem d_Md_coded_10 : decode b_Md_coded 10 = .ok (.bipush (7), 2) := by decide +kernel
theorem d_Md_coded_12 : decode b_Md_coded 12 = .ok (.iand, 1) := by decide +kernel
theorem d_Md_coded_13 : decode b_Md_coded 13 = .ok (.invokestatic 146, 3) := by decide +kernel
theorem d_Md_coded_16 : decode b_Md_coded 16 = .ok (.lreturn, 1) := by decide +kernel
theorem d_Md_decoded_0 : decode b_Md_decoded 0 = .ok (.aload_n 0, 1) := by decide +kernel
theorem d_Md_decoded_1 : decode b_Md_decoded 1 = .ok (.iconst (0), 1) := by decide +kernel
theorem d_Md_decoded_2 : decode b_Md_decoded 2 = .ok (.putfield 7, 3) := by decide +kernel
theorem d_Md_decoded_5 : decode b_Md_decoded 5 = .ok (.aload_n 0, 1) := by decide +kernel
theorem d_Md_decoded_6 : decode b_Md_decoded 6 = .ok (.lload_n 1, 1) := by decide +kernel
theorem d_Md_decoded_7 : decode b_Md_decoded 7 = .ok (.ldc2_w 224, 3) := by decide +kernel
theorem d_Md_decoded_10 : decode b_Md_decoded 10 = .ok (.land, 1) := by decide +kernel
theorem d_Md_decoded_11 : decode b_Md_decoded 11 = .ok (.iload_n 3, 1) := by decide +kernel
theorem d_Md_decoded_12 : decode b_Md_decoded 12 = .ok (.bipush (7), 2) := by decide +kernel
theorem d_Md_decoded_14 : decode b_Md_decoded 14 = .ok (.iand, 1) := by decide +kernel
theorem d_Md_decoded_15 : decode b_Md_decoded 15 = .ok (.invokevirtual 150, 3) := by decide +kernel
theorem d_Md_decoded_18 : decode b_Md_decoded 18 = .ok (.ireturn, 1) := by decide +kernel
theorem d_Md_distance_0 : decode b_Md_distance 0 = .ok (.aload_n 0, 1) := by decide +kernel
theorem d_Md_distance_1 : decode b_Md_distance 1 = .ok (.iconst (0), 1) := by decide +kernel
theorem d_Md_distance_2 : decode b_Md_distance 2 = .ok (.putfield 7, 3) := by decide +kernel
theorem d_Md_distance_5 : decode b_Md_distance 5 = .ok (.aload_n 0, 1) := by decide +kernel
theorem d_Md_distance_6 : decode b_Md_distance 6 = .ok (.lload_n 1, 1) := by decide +kernel
theorem d_Md_distance_7 : decode b_Md_distance 7 = .ok (.ldc2_w 224, 3) := by decide +kernel
theorem d_Md_distance_10 : decode b_Md_distance 10 = .ok (.land, 1) := by decide +kernel
theorem d_Md_distance_11 : decode b_Md_distance 11 = .ok (.iload_n 3, 1) := by decide +kernel
theorem d_Md_distance_12 : decode b_Md_distance 12 = .ok (.bipush (7), 2) := by decide +kernel
theorem d_Md_distance_14 : decode b_Md_distance 14 = .ok (.iand, 1) := by decide +kernel
theorem d_Md_distance_15 : decode b_Md_distance 15 = .ok (.invokevirtual 142, 3) := by decide +kernel
theorem d_Md_distance_18 : decode b_Md_distance 18 = .ok (.aload_n 0, 1) := by decide +kernel
theorem d_Md_distance_19 : decode b_Md_distance 19 = .ok (.getfield 24, 3) := by decide +kernel
theorem d_Md_distance_22 : decode b_Md_distance 22 = .ok (.ireturn, 1) := by decide +kernel
def p_Md_thrown (post : Int32 → SI → SJ → Prop) (I : SI) (J : SJ) : Prop :=
  post (I 0 0) I J
abbrev rm_Md_thrown : Room := { frames := 0, cells := 0, slots := 0, locals := 0 }
def p_Md_in_13 (p0 : Int32) (p1 : Int32) (post : Int32 → SI → SJ → Prop) (I : SI) (J : SJ) : Prop :=
  post (0 : Int32) I J
def p_Md_in (p0 : Int32) (p1 : Int32) (post : Int32 → SI → SJ → Prop) (I : SI) (J : SJ) : Prop :=
  ((p0 < (0) → p_Md_in_13 p0 p1 post I J) ∧ (¬ p0 < (0) → ((p1 ≤ p0 → p_Md_in_13 p0 p1 post I J) ∧ (¬ p1 ≤ p0 → post (1 : Int32) I J))))
abbrev rm_Md_in : Room := { frames := 0, cells := 0, slots := 0, locals := 0 }
def p_Md_keys_15 (p1 : Int32) (p2 : Int32) (p3 : Int32) (post : SI → SJ → Prop) (s0 : Int32) (I : SI) (J : SJ) : Prop :=
  ∀ I4, I4 = xu I (0) 0 s0 → ((¬ (I4 0 0) = (0) → post I4 J) ∧ ((I4 0 0) = (0) → ∃ j5, p1 = nI j5 ∧ j5 < 8 ∧ ∀ I6, I6 = xu I4 (4) j5 p2 → ∃ j7, p1 = nI j7 ∧ j7 < 8 ∧ ∀ I8, I8 = xu I6 (5) j7 p3 → post I8 J))
def p_Md_keys (p1 : Int32) (p2 : Int32) (p3 : Int32) (post : SI → SJ → Prop) (I : SI) (J : SJ) : Prop :=
  p_Md_in p1 (8 : Int32) (fun r3 I1 J2 => ((r3 = (0) → p_Md_keys_15 p1 p2 p3 post (1 : Int32) I1 J2) ∧ (¬ r3 = (0) → p_Md_keys_15 p1 p2 p3 post (0 : Int32) I1 J2))) I J
abbrev rm_Md_keys : Room := { frames := 1, cells := 0, slots := 0, locals := 21 }
def p_Md_group_14 (p1 : Int32) (p2 : Int32) (post : SI → SJ → Prop) (s0 : Int32) (I : SI) (J : SJ) : Prop :=
  ∀ I4, I4 = xu I (0) 0 s0 → ((¬ (I4 0 0) = (0) → post I4 J) ∧ ((I4 0 0) = (0) → ∃ j5, p1 = nI j5 ∧ j5 < 4 ∧ ∀ I6, I6 = xu I4 (26) j5 p2 → post I6 J))
def p_Md_group (p1 : Int32) (p2 : Int32) (post : SI → SJ → Prop) (I : SI) (J : SJ) : Prop :=
  p_Md_in p1 (4 : Int32) (fun r3 I1 J2 => ((r3 = (0) → p_Md_group_14 p1 p2 post (1 : Int32) I1 J2) ∧ (¬ r3 = (0) → p_Md_group_14 p1 p2 post (0 : Int32) I1 J2))) I J
abbrev rm_Md_group : Room := { frames := 1, cells := 0, slots := 0, locals := 21 }
def p_Md_member_15 (p1 : Int32) (p2 : Int32) (post : SI → SJ → Prop) (s0 : Int32) (I : SI) (J : SJ) : Prop :=
  ∀ I4, I4 = xu I (0) 0 s0 → ((¬ (I4 0 0) = (0) → post I4 J) ∧ ((I4 0 0) = (0) → ∃ j5, p1 = nI j5 ∧ j5 < 8 ∧ ∀ I6, I6 = xu I4 (6) j5 (p2 &&& (15 : Int32)) → post I6 J))
def p_Md_member (p1 : Int32) (p2 : Int32) (post : SI → SJ → Prop) (I : SI) (J : SJ) : Prop :=
  p_Md_in p1 (8 : Int32) (fun r3 I1 J2 => ((r3 = (0) → p_Md_member_15 p1 p2 post (1 : Int32) I1 J2) ∧ (¬ r3 = (0) → p_Md_member_15 p1 p2 post (0 : Int32) I1 J2))) I J
abbrev rm_Md_member : Room := { frames := 1, cells := 0, slots := 0, locals := 21 }
def p_Md_move_25 (p1 : Int32) (p2 : Int32) (post : SI → SJ → Prop) (s0 : Int32) (I : SI) (J : SJ) : Prop :=
  ∀ I4, I4 = xu I (0) 0 s0 → ((¬ (I4 0 0) = (0) → post I4 J) ∧ ((I4 0 0) = (0) → ∃ j5, p1 = nI j5 ∧ j5 < 8 ∧ ∀ I6, I6 = xu I4 (3) j5 p2 → p_Md_noMessage p1 (fun I7 J8 => ∃ j9, p1 = nI j9 ∧ j9 < 8 ∧ ∀ I10, I10 = xu I7 (16) j9 (-1 : Int32) → p_Md_idle p1 (fun I11 J12 => post I11 J12) I10 J8) I6 J))
def p_Md_move_24 (p1 : Int32) (p2 : Int32) (post : SI → SJ → Prop) (I : SI) (J : SJ) : Prop :=
  p_Md_move_25 p1 p2 post (1 : Int32) I J
def p_Md_move (p1 : Int32) (p2 : Int32) (post : SI → SJ → Prop) (I : SI) (J : SJ) : Prop :=
  p_Md_in p1 (8 : Int32) (fun r3 I1 J2 => ((r3 = (0) → p_Md_move_24 p1 p2 post I1 J2) ∧ (¬ r3 = (0) → ((p2 < (-1 : Int32) → p_Md_move_24 p1 p2 post I1 J2) ∧ (¬ p2 < (-1 : Int32) → (((3 : Int32) ≤ p2 → p_Md_move_24 p1 p2 post I1 J2) ∧ (¬ (3 : Int32) ≤ p2 → p_Md_move_25 p1 p2 post (0 : Int32) I1 J2))))))) I J
abbrev rm_Md_move : Room := { frames := 1, cells := 0, slots := 0, locals := 21 }
def p_Md_begin (p1 : Int32) (p2 : Int32) (p3 : Int32) (p4 : Int32) (post : SI → SJ → Prop) (I : SI) (J : SJ) : Prop :=
  ∃ j1, p1 = nI j1 ∧ j1 < 8 ∧ ∀ I2, I2 = xu I (7) j1 p2 → ∃ j3, p1 = nI j3 ∧ j3 < 8 ∧ ∀ I4, I4 = xu I2 (8) j3 p3 → ∃ j5, p1 = nI j5 ∧ j5 < 8 ∧ ∀ I6, I6 = xu I4 (9) j5 p4 → ∃ j7, p1 = nI j7 ∧ j7 < 8 ∧ ∀ I8, I8 = xu I6 (10) j7 (0 : Int32) → ∃ j9, p1 = nI j9 ∧ j9 < 8 ∧ ∀ I10, I10 = xu I8 (11) j9 (0 : Int32) → post I10 J
abbrev rm_Md_begin : Room := { frames := 0, cells := 0, slots := 0, locals := 0 }
def p_Md_register_37 (p1 : Int32) (post : SI → SJ → Prop) (s0 : Int32) (I : SI) (J : SJ) : Prop :=
  ∀ I5, I5 = xu I (0) 0 s0 → ((¬ (I5 0 0) = (0) → post I5 J) ∧ ((I5 0 0) = (0) → p_Md_begin p1 (1 : Int32) (0 : Int32) (0 : Int32) (fun I6 J7 => post I6 J7) I5 J))
def p_Md_register_32 (p1 : Int32) (post : SI → SJ → Prop) (I : SI) (J : SJ) : Prop :=
  p_Md_register_37 p1 post (2 : Int32) I J
def p_Md_register (p1 : Int32) (post : SI → SJ → Prop) (I : SI) (J : SJ) : Prop :=
  p_Md_in p1 (8 : Int32) (fun r3 I1 J2 => ((¬ r3 = (0) → ∃ j4, p1 = nI j4 ∧ j4 < 8 ∧ (((I1 (3) j4) < (0) → p_Md_register_32 p1 post I1 J2) ∧ (¬ (I1 (3) j4) < (0) → ∃ j9, p1 = nI j9 ∧ j9 < 8 ∧ (((I1 (7) j9) ≤ (0) → p_Md_register_37 p1 post (0 : Int32) I1 J2) ∧ (¬ (I1 (7) j9) ≤ (0) → p_Md_register_32 p1 post I1 J2))))) ∧ (r3 = (0) → p_Md_register_37 p1 post (1 : Int32) I1 J2))) I J
abbrev rm_Md_register : Room := { frames := 1, cells := 0, slots := 0, locals := 24 }
def p_Md_press_54 (p1 : Int32) (p2 : Int32) (p3 : Int32) (post : SI → SJ → Prop) (s0 : Int32) (I : SI) (J : SJ) : Prop :=
  ∀ I4, I4 = xu I (0) 0 s0 → ((¬ (I4 0 0) = (0) → post I4 J) ∧ ((I4 0 0) = (0) → ∃ j5, p1 = nI j5 ∧ j5 < 8 ∧ ∀ I6, I6 = xu I4 (16) j5 p2 → p_Md_begin p1 (2 : Int32) (((4 : Int32) * p2) + (p3 &&& (3 : Int32))) (0 : Int32) (fun I7 J8 => post I7 J8) I6 J))
def p_Md_press_18 (p1 : Int32) (p2 : Int32) (p3 : Int32) (post : SI → SJ → Prop) (I : SI) (J : SJ) : Prop :=
  p_Md_press_54 p1 p2 p3 post (1 : Int32) I J
def p_Md_press_49 (p1 : Int32) (p2 : Int32) (p3 : Int32) (post : SI → SJ → Prop) (I : SI) (J : SJ) : Prop :=
  p_Md_press_54 p1 p2 p3 post (2 : Int32) I J
def p_Md_press (p1 : Int32) (p2 : Int32) (p3 : Int32) (post : SI → SJ → Prop) (I : SI) (J : SJ) : Prop :=
  p_Md_in p1 (8 : Int32) (fun r3 I1 J2 => ((r3 = (0) → p_Md_press_18 p1 p2 p3 post I1 J2) ∧ (¬ r3 = (0) → p_Md_in p2 (4 : Int32) (fun r12 I10 J11 => ((¬ r12 = (0) → ∃ j13, p1 = nI j13 ∧ j13 < 8 ∧ (((I10 (3) j13) < (0) → p_Md_press_49 p1 p2 p3 post I10 J11) ∧ (¬ (I10 (3) j13) < (0) → ∃ j14, p1 = nI j14 ∧ j14 < 8 ∧ (((0) < (I10 (7) j14) → p_Md_press_49 p1 p2 p3 post I10 J11) ∧ (¬ (0) < (I10 (7) j14) → ∃ j15, p1 = nI j15 ∧ j15 < 8 ∧ (((I10 (16) j15) < (0) → p_Md_press_54 p1 p2 p3 post (0 : Int32) I10 J11) ∧ (¬ (I10 (16) j15) < (0) → p_Md_press_49 p1 p2 p3 post I10 J11))))))) ∧ (r12 = (0) → p_Md_press_18 p1 p2 p3 post I10 J11))) I1 J2))) I J
abbrev rm_Md_press : Room := { frames := 1, cells := 0, slots := 0, locals := 24 }
def p_Md_release_15 (p1 : Int32) (post : SI → SJ → Prop) (s0 : Int32) (I : SI) (J : SJ) : Prop :=
  ∀ I4, I4 = xu I (0) 0 s0 → ((¬ (I4 0 0) = (0) → post I4 J) ∧ ((I4 0 0) = (0) → ∃ j5, p1 = nI j5 ∧ j5 < 8 ∧ ∀ I6, I6 = xu I4 (16) j5 (-1 : Int32) → ∃ j7, p1 = nI j7 ∧ j7 < 8 ∧ ((¬ (I6 (7) j7) = (2 : Int32) → post I6 J) ∧ ((I6 (7) j7) = (2 : Int32) → p_Md_noMessage p1 (fun I8 J9 => post I8 J9) I6 J))))
def p_Md_release (p1 : Int32) (post : SI → SJ → Prop) (I : SI) (J : SJ) : Prop :=
  p_Md_in p1 (8 : Int32) (fun r3 I1 J2 => ((r3 = (0) → p_Md_release_15 p1 post (1 : Int32) I1 J2) ∧ (¬ r3 = (0) → p_Md_release_15 p1 post (0 : Int32) I1 J2))) I J
abbrev rm_Md_release : Room := { frames := 1, cells := 0, slots := 0, locals := 21 }
def p_Md_send_46 (p1 : Int32) (p2 : Int32) (p3 : Int32) (post : SI → SJ → Prop) (s0 : Int32) (I : SI) (J : SJ) : Prop :=
  ∀ I4, I4 = xu I (0) 0 s0 → ((¬ (I4 0 0) = (0) → post I4 J) ∧ ((I4 0 0) = (0) → p_Md_begin p1 (3 : Int32) p2 (p3 &&& (511 : Int32)) (fun I5 J6 => post I5 J6) I4 J))
def p_Md_send_19 (p1 : Int32) (p2 : Int32) (p3 : Int32) (post : SI → SJ → Prop) (I : SI) (J : SJ) : Prop :=
  p_Md_send_46 p1 p2 p3 post (1 : Int32) I J
def p_Md_send_41 (p1 : Int32) (p2 : Int32) (p3 : Int32) (post : SI → SJ → Prop) (I : SI) (J : SJ) : Prop :=
  p_Md_send_46 p1 p2 p3 post (2 : Int32) I J
def p_Md_send (p1 : Int32) (p2 : Int32) (p3 : Int32) (post : SI → SJ → Prop) (I : SI) (J : SJ) : Prop :=
  p_Md_in p1 (8 : Int32) (fun r3 I1 J2 => ((r3 = (0) → p_Md_send_19 p1 p2 p3 post I1 J2) ∧ (¬ r3 = (0) → p_Md_in p2 (8 : Int32) (fun r10 I8 J9 => ((¬ r10 = (0) → ∃ j11, p1 = nI j11 ∧ j11 < 8 ∧ (((I8 (3) j11) < (0) → p_Md_send_41 p1 p2 p3 post I8 J9) ∧ (¬ (I8 (3) j11) < (0) → ∃ j12, p1 = nI j12 ∧ j12 < 8 ∧ (((I8 (7) j12) ≤ (0) → p_Md_send_46 p1 p2 p3 post (0 : Int32) I8 J9) ∧ (¬ (I8 (7) j12) ≤ (0) → p_Md_send_41 p1 p2 p3 post I8 J9))))) ∧ (r10 = (0) → p_Md_send_19 p1 p2 p3 post I8 J9))) I1 J2))) I J
abbrev rm_Md_send : Room := { frames := 1, cells := 0, slots := 0, locals := 24 }
def p_Md_speak_15 (p1 : Int32) (p2 : Int32) (post : SI → SJ → Prop) (s0 : Int32) (I : SI) (J : SJ) : Prop :=
  ∀ I4, I4 = xu I (0) 0 s0 → ((¬ (I4 0 0) = (0) → post I4 J) ∧ ((I4 0 0) = (0) → ∃ j5, p1 = nI j5 ∧ j5 < 8 ∧ ∀ I6, I6 = xu I4 (17) j5 (p2 &&& (524287 : Int32)) → post I6 J))
def p_Md_speak (p1 : Int32) (p2 : Int32) (post : SI → SJ → Prop) (I : SI) (J : SJ) : Prop :=
  p_Md_in p1 (8 : Int32) (fun r3 I1 J2 => ((r3 = (0) → p_Md_speak_15 p1 p2 post (1 : Int32) I1 J2) ∧ (¬ r3 = (0) → p_Md_speak_15 p1 p2 post (0 : Int32) I1 J2))) I J
abbrev rm_Md_speak : Room := { frames := 1, cells := 0, slots := 0, locals := 21 }
def p_Md_draw_43 (p1 : Int32) (p2 : Int32) (post : SI → SJ → Prop) (s0 : Int32) (I : SI) (J : SJ) : Prop :=
  ∀ I8, I8 = xu I (0) 0 s0 → ((¬ (I8 0 0) = (0) → post I8 J) ∧ ((I8 0 0) = (0) → ∃ j9, p1 = nI j9 ∧ j9 < 8 ∧ ∃ j10, ((8 : Int32) * p1) + (I8 (19) j9) = nI j10 ∧ j10 < 64 ∧ ∀ I11, I11 = xu I8 (18) j10 p2 → ∃ j12, p1 = nI j12 ∧ j12 < 8 ∧ ∃ j13, p1 = nI j13 ∧ j13 < 8 ∧ ∀ I14, I14 = xu I11 (19) j13 ((I11 (19) j12) + (1 : Int32)) → post I14 J))
def p_Md_draw (p1 : Int32) (p2 : Int32) (post : SI → SJ → Prop) (I : SI) (J : SJ) : Prop :=
  p_Md_in p1 (8 : Int32) (fun r3 I1 J2 => ((¬ r3 = (0) → p_Md_in p2 (16 : Int32) (fun r6 I4 J5 => ((¬ r6 = (0) → ∃ j7, p1 = nI j7 ∧ j7 < 8 ∧ ((¬ (I4 (19) j7) = (8 : Int32) → p_Md_draw_43 p1 p2 post (0 : Int32) I4 J5) ∧ ((I4 (19) j7) = (8 : Int32) → p_Md_draw_43 p1 p2 post (3 : Int32) I4 J5))) ∧ (r6 = (0) → p_Md_draw_43 p1 p2 post (2 : Int32) I4 J5))) I1 J2) ∧ (r3 = (0) → p_Md_draw_43 p1 p2 post (1 : Int32) I1 J2))) I J
abbrev rm_Md_draw : Room := { frames := 1, cells := 0, slots := 0, locals := 21 }
def p_Md_fault_15 (p1 : Int32) (p2 : Int64) (post : SI → SJ → Prop) (s0 : Int32) (I : SI) (J : SJ) : Prop :=
  ∀ I4, I4 = xu I (0) 0 s0 → ((¬ (I4 0 0) = (0) → post I4 J) ∧ ((I4 0 0) = (0) → ∃ j5, p1 = nI j5 ∧ j5 < 11 ∧ ∀ J6, J6 = xv J (25) j5 (p2 &&& (18014398509481983 : Int64)) → post I4 J6))
def p_Md_fault (p1 : Int32) (p2 : Int64) (post : SI → SJ → Prop) (I : SI) (J : SJ) : Prop :=
  p_Md_in p1 (11 : Int32) (fun r3 I1 J2 => ((r3 = (0) → p_Md_fault_15 p1 p2 post (1 : Int32) I1 J2) ∧ (¬ r3 = (0) → p_Md_fault_15 p1 p2 post (0 : Int32) I1 J2))) I J
abbrev rm_Md_fault : Room := { frames := 1, cells := 0, slots := 0, locals := 21 }
def p_Md_tick_L42 (p1 : Int32) (post : Int32 → SI → SJ → Prop) : Nat → Int32 → SI → SJ → Prop
  | 0, _, _, _ => False
  | n + 1, v2, I, J => ((p1 ≤ v2 → post (I 0 36) I J) ∧ (¬ p1 ≤ v2 → p_Md_slot (fun I3 J4 => ∀ x5, x5 = v2 + (1 : Int32) → p_Md_tick_L42 p1 post n x5 I3 J4) I J))
def p_Md_tick_28 (p1 : Int32) (post : Int32 → SI → SJ → Prop) (s0 : Int32) (I : SI) (J : SJ) : Prop :=
  ∀ I1, I1 = xu I (0) 0 s0 → (((I1 0 0) = (0) → ∀ x2, x2 = (0 : Int32) → ∃ n7, p_Md_tick_L42 p1 post n7 x2 I1 J) ∧ (¬ (I1 0 0) = (0) → post (0 : Int32) I1 J))
def p_Md_tick_23 (p1 : Int32) (post : Int32 → SI → SJ → Prop) (I : SI) (J : SJ) : Prop :=
  p_Md_tick_28 p1 post (1 : Int32) I J
def p_Md_tick (p1 : Int32) (post : Int32 → SI → SJ → Prop) (I : SI) (J : SJ) : Prop :=
  ((p1 < (0) → p_Md_tick_23 p1 post I J) ∧ (¬ p1 < (0) → (((200 : Int32) < p1 → p_Md_tick_23 p1 post I J) ∧ (¬ (200 : Int32) < p1 → (((I 0 36) ≤ ((1000000000 : Int32) - p1) → p_Md_tick_28 p1 post (0 : Int32) I J) ∧ (¬ (I 0 36) ≤ ((1000000000 : Int32) - p1) → p_Md_tick_23 p1 post I J))))))
abbrev rm_Md_tick : Room := { frames := 7, cells := 0, slots := 0, locals := 180 }
def p_Md_mobile (p1 : Int32) (p2 : Int32) (post : Int32 → SI → SJ → Prop) (I : SI) (J : SJ) : Prop :=
  ∀ I1, I1 = xu I (0) 0 (0 : Int32) → p_Md_in p1 (8 : Int32) (fun r4 I2 J3 => ((¬ r4 = (0) → ((p2 = (0 : Int32) → ∃ j5, p1 = nI j5 ∧ j5 < 8 ∧ post (I2 (3) j5) I2 J3) ∧ (¬ p2 = (0 : Int32) → ((p2 = (1 : Int32) → ∃ j7, p1 = nI j7 ∧ j7 < 8 ∧ post (I2 (13) j7) I2 J3) ∧ (¬ p2 = (1 : Int32) → ((p2 = (2 : Int32) → ∃ j9, p1 = nI j9 ∧ j9 < 8 ∧ ((¬ (I2 (13) j9) = (0) → ∃ j10, p1 = nI j10 ∧ j10 < 8 ∧ post (I2 (14) j10) I2 J3) ∧ ((I2 (13) j9) = (0) → post (-1 : Int32) I2 J3))) ∧ (¬ p2 = (2 : Int32) → ((p2 = (3 : Int32) → ∃ j13, p1 = nI j13 ∧ j13 < 8 ∧ ((¬ (I2 (13) j13) = (0) → ∃ j14, p1 = nI j14 ∧ j14 < 8 ∧ post (I2 (15) j14) I2 J3) ∧ ((I2 (13) j13) = (0) → post (-1 : Int32) I2 J3))) ∧ (¬ p2 = (3 : Int32) → ((p2 = (4 : Int32) → ∃ j17, p1 = nI j17 ∧ j17 < 8 ∧ post (I2 (16) j17) I2 J3) ∧ (¬ p2 = (4 : Int32) → ((p2 = (5 : Int32) → ∃ j19, p1 = nI j19 ∧ j19 < 8 ∧ post (I2 (7) j19) I2 J3) ∧ (¬ p2 = (5 : Int32) → ((p2 = (6 : Int32) → ∃ j21, p1 = nI j21 ∧ j21 < 8 ∧ post (I2 (10) j21) I2 J3) ∧ (¬ p2 = (6 : Int32) → ((p2 = (7 : Int32) → ∃ j23, p1 = nI j23 ∧ j23 < 8 ∧ post (I2 (11) j23) I2 J3) ∧ (¬ p2 = (7 : Int32) → ((p2 = (8 : Int32) → ∃ j25, p1 = nI j25 ∧ j25 < 8 ∧ post (I2 (20) j25) I2 J3) ∧ (¬ p2 = (8 : Int32) → ((p2 = (9 : Int32) → ∃ j27, p1 = nI j27 ∧ j27 < 8 ∧ post (I2 (21) j27) I2 J3) ∧ (¬ p2 = (9 : Int32) → ((p2 = (10 : Int32) → ∃ j29, p1 = nI j29 ∧ j29 < 8 ∧ post (I2 (22) j29) I2 J3) ∧ (¬ p2 = (10 : Int32) → ((p2 = (11 : Int32) → ∃ j31, p1 = nI j31 ∧ j31 < 8 ∧ post (I2 (23) j31) I2 J3) ∧ (¬ p2 = (11 : Int32) → ((p2 = (12 : Int32) → ∃ j33, p1 = nI j33 ∧ j33 < 8 ∧ post (I2 (19) j33) I2 J3) ∧ (¬ p2 = (12 : Int32) → ((p2 = (13 : Int32) → ∃ j35, p1 = nI j35 ∧ j35 < 8 ∧ post (I2 (24) j35) I2 J3) ∧ (¬ p2 = (13 : Int32) → post (-1 : Int32) I2 J3))))))))))))))))))))))))))))) ∧ (r4 = (0) → post (-1 : Int32) I2 J3))) I1 J
abbrev rm_Md_mobile : Room := { frames := 1, cells := 0, slots := 0, locals := 21 }
def p_Md_call (p1 : Int32) (p2 : Int32) (post : Int32 → SI → SJ → Prop) (I : SI) (J : SJ) : Prop :=
  ∀ I1, I1 = xu I (0) 0 (0 : Int32) → p_Md_in p1 (4 : Int32) (fun r4 I2 J3 => ((r4 = (0) → post (-1 : Int32) I2 J3) ∧ (¬ r4 = (0) → p_Md_in p2 (4 : Int32) (fun r7 I5 J6 => ((¬ r7 = (0) → ((¬ p2 = (3 : Int32) → ∃ j8, p1 = nI j8 ∧ j8 < 4 ∧ ((¬ (I5 (27) j8) = (0) → ((¬ p2 = (0) → ((¬ p2 = (1 : Int32) → ∃ j9, p1 = nI j9 ∧ j9 < 4 ∧ post (I5 (29) j9) I5 J6) ∧ (p2 = (1 : Int32) → ∃ j10, p1 = nI j10 ∧ j10 < 4 ∧ post (I5 (28) j10) I5 J6))) ∧ (p2 = (0) → ∃ j12, p1 = nI j12 ∧ j12 < 4 ∧ post (I5 (27) j12) I5 J6))) ∧ ((I5 (27) j8) = (0) → post (-1 : Int32) I5 J6))) ∧ (p2 = (3 : Int32) → ∃ j15, p1 = nI j15 ∧ j15 < 4 ∧ post (I5 (31) j15) I5 J6))) ∧ (r7 = (0) → post (-1 : Int32) I5 J6))) I2 J3))) I1 J
abbrev rm_Md_call : Room := { frames := 1, cells := 0, slots := 0, locals := 21 }
def p_Md_waiting_42 (p1 : Int32) (p2 : Int32) (post : Int32 → SI → SJ → Prop) (I : SI) (J : SJ) : Prop :=
  post (-1 : Int32) I J
def p_Md_waiting (p1 : Int32) (p2 : Int32) (post : Int32 → SI → SJ → Prop) (I : SI) (J : SJ) : Prop :=
  ∀ I1, I1 = xu I (0) 0 (0 : Int32) → p_Md_in p1 (4 : Int32) (fun r4 I2 J3 => ((r4 = (0) → p_Md_waiting_42 p1 p2 post I2 J3) ∧ (¬ r4 = (0) → ∃ j5, p1 &&& (3 : Int32) = nI j5 ∧ j5 < 4 ∧ p_Md_in p2 (I2 (31) j5) (fun r8 I6 J7 => ((r8 = (0) → p_Md_waiting_42 p1 p2 post I6 J7) ∧ (¬ r8 = (0) → ∃ j9, ((6 : Int32) * p1) + p2 = nI j9 ∧ j9 < 24 ∧ post (I6 (30) j9) I6 J7))) I2 J3))) I1 J
abbrev rm_Md_waiting : Room := { frames := 1, cells := 0, slots := 0, locals := 21 }
def p_Md_saying (p1 : Int32) (p2 : Int32) (post : Int32 → SI → SJ → Prop) (I : SI) (J : SJ) : Prop :=
  ∀ I1, I1 = xu I (0) 0 (0 : Int32) → p_Md_in p1 (3 : Int32) (fun r4 I2 J3 => ((r4 = (0) → post (-1 : Int32) I2 J3) ∧ (¬ r4 = (0) → ∃ j5, p1 = nI j5 ∧ j5 < 3 ∧ p_Md_in p2 (I2 (33) j5) (fun r8 I6 J7 => ((¬ r8 = (0) → ∃ j9, ((9 : Int32) * p1) + p2 = nI j9 ∧ j9 < 27 ∧ post (I6 (32) j9) I6 J7) ∧ (r8 = (0) → post (-1 : Int32) I6 J7))) I2 J3))) I1 J
abbrev rm_Md_saying : Room := { frames := 1, cells := 0, slots := 0, locals := 21 }
def p_Md_coded (p1 : Int32) (p2 : Int32) (post : Int64 → SI → SJ → Prop) (I : SI) (J : SJ) : Prop :=
  ∀ I1, I1 = xu I (0) 0 (0 : Int32) → p_Md_burstOf (p1 &&& (1048575 : Int32)) (p2 &&& (7 : Int32)) (fun r4 I2 J3 => post r4 I2 J3) I1 J
abbrev rm_Md_coded : Room := { frames := 2, cells := 0, slots := 0, locals := 57 }
def p_Md_decoded (p1 : Int64) (p3 : Int32) (post : Int32 → SI → SJ → Prop) (I : SI) (J : SJ) : Prop :=
  ∀ I1, I1 = xu I (0) 0 (0 : Int32) → p_Md_blockOf (p1 &&& (18014398509481983 : Int64)) (p3 &&& (7 : Int32)) (fun r4 I2 J3 => post r4 I2 J3) I1 J
abbrev rm_Md_decoded : Room := { frames := 4, cells := 0, slots := 0, locals := 105 }
def p_Md_distance (p1 : Int64) (p3 : Int32) (post : Int32 → SI → SJ → Prop) (I : SI) (J : SJ) : Prop :=
  ∀ I1, I1 = xu I (0) 0 (0 : Int32) → p_Md_nearest (p1 &&& (18014398509481983 : Int64)) (p3 &&& (7 : Int32)) (fun I2 J3 => post (I2 0 4) I2 J3) I1 J
abbrev rm_Md_distance : Room := { frames := 3, cells := 0, slots := 0, locals := 81 }
set_option maxHeartbeats 4000000 in
set_option maxRecDepth 100000 in
theorem c_Md_thrown (l : Launch) (D : va_G) (κ : Nat → ClassId) {Θ : Nat → Nat} (hΘ : xJ 34 Θ) (sz : Nat) (I : SI) (J : SJ) (post : Int32 → SI → SJ → Prop) (h : p_Md_thrown post I J) : Met l y_Md_thrown WS rm_Md_thrown (va_Pc [.ref (Θ (0))] (xPR D clA (tysA κ) 34 Θ (eM Θ κ) sz I J)) (xQi D clA 34 Θ (eM Θ κ) sz post) 0 0 (xA 34 Θ sz) := by
  refine xMet (cc := b_Md_thrown) (maxL := 1) (ret := (some .int)) (by decide) q_Md_thrown.1 ?_
  intro p e s m args below meth c s₁ B hml hv
  obtain ⟨hargs, hsz, hP, hK, hN, hG⟩ := hv
  have hx := B.exec
  have hb := B.bytes
  have hr := B.returns
  have hlocks := B.notSynchronized
  have hts := atoms_spec (ws := WS) B.pre
  have hown : s.vm.findClass R_Md = some m.cls := findClass_of_methodNamed B.named
  have C : xC p m c b_Md_thrown 1 s args R_Md D clA (tysA κ) 34 Θ sz := ⟨⟨hx, hb, hml, hown, hts⟩, hK, hN, hG, hsz⟩
  have hS : va_S (xA 34 Θ sz) s.heap s.heap [] := va_S.rf
  have hE := lg_entry_eq m [.ref (Θ (0))] 1
  rw [← hargs] at hE
  rw [hE]
  have hl := lv_entry [.ref (Θ (0))] (n := 1) (Nat.le_of_ble_eq_true rfl)
  generalize (lg_sl [.ref (Θ (0))] ++ List.replicate (1 - (lg_sl [.ref (Θ (0))]).length) Slot.unset).toArray = ls at hl ⊢
  have hl : lv_has ls 1 [(0, .ref (Θ (0)))] := hl
  unfold p_Md_thrown at h
  refine lv_aload_n hx hb d_Md_thrown_0 rfl (lv_at hl 0 rfl) ?_
  refine gfM_Md_7 C hP d_Md_thrown_1 ?_
  exact x_iret hx hb hr hlocks hP hS h d_Md_thrown_4
set_option maxHeartbeats 4000000 in
set_option maxRecDepth 100000 in
theorem c_Md_in (l : Launch) (D : va_G) (κ : Nat → ClassId) {Θ : Nat → Nat} (hΘ : xJ 34 Θ) (sz : Nat) (p0 : Int32) (p1 : Int32) (I : SI) (J : SJ) (post : Int32 → SI → SJ → Prop) (h : p_Md_in p0 p1 post I J) : Met l y_Md_in WS rm_Md_in (va_Pc [.int p0, .int p1] (xPR D clA (tysA κ) 34 Θ (eM Θ κ) sz I J)) (xQi D clA 34 Θ (eM Θ κ) sz post) 0 0 (xA 34 Θ sz) := by
  refine xMet (cc := b_Md_in) (maxL := 2) (ret := (some .boolean)) (by decide) q_Md_in.1 ?_
  intro p e s m args below meth c s₁ B hml hv
  obtain ⟨hargs, hsz, hP, hK, hN, hG⟩ := hv
  have hx := B.exec
  have hb := B.bytes
  have hr := B.returns
  have hlocks := B.notSynchronized
  have hts := atoms_spec (ws := WS) B.pre
  have hown : s.vm.findClass R_Md = some m.cls := findClass_of_methodNamed B.named
  have C : xC p m c b_Md_in 2 s args R_Md D clA (tysA κ) 34 Θ sz := ⟨⟨hx, hb, hml, hown, hts⟩, hK, hN, hG, hsz⟩
  have hS : va_S (xA 34 Θ sz) s.heap s.heap [] := va_S.rf
  have tJ13 : ∀ (I : SI) (J : SJ), p_Md_in_13 p0 p1 post I J → ∀ (H : Heap) (locs : List Loc) (ls : Array Slot), lv_has ls 2 [] → va_P D clA (xw 34 Θ (eM Θ κ) I J) H → va_S (xA 34 Θ sz) s.heap H locs → W p l e (headSpec WS rm_Md_in).room s m args below meth c H locs 0 0 (MQ below (xQi D clA 34 Θ (eM Θ κ) sz post) args s 0 0 (xA 34 Θ sz)) (F0 m 13 ls []) := by
    intro I J h H locs ls hl hP hS
    unfold p_Md_in_13 at h
    refine lv_iconst (v := (0 : Int32)) hx hb d_Md_in_13 (by decide) ?_
    exact x_zret hx hb hr hlocks hP hS (by decide) h d_Md_in_14
  have hE := lg_entry_eq m [.int p0, .int p1] 2
  rw [← hargs] at hE
  rw [hE]
  have hl := lv_entry [.int p0, .int p1] (n := 2) (Nat.le_of_ble_eq_true rfl)
  generalize (lg_sl [.int p0, .int p1] ++ List.replicate (2 - (lg_sl [.int p0, .int p1]).length) Slot.unset).toArray = ls at hl ⊢
  have hl : lv_has ls 2 [(0, .int p0), (1, .int p1)] := hl
  unfold p_Md_in at h
  refine lv_iload_n hx hb d_Md_in_0 rfl (lv_at hl 0 rfl) ?_
  refine lv_if_lt hx hb d_Md_in_1 (tgt := 13) rfl (fun hc2 => ?_) (fun hc2 => ?_)
  · have h := h.1 hc2
    exact tJ13 _ _ h _ _ _ (lv_sub hl [] rfl) hP hS
  · have h := h.2 hc2
    refine lv_iload_n hx hb d_Md_in_4 rfl (lv_at hl 0 rfl) ?_
    refine lv_iload_n hx hb d_Md_in_5 rfl (lv_at hl 1 rfl) ?_
    refine lv_icmp_ge hx hb d_Md_in_6 (tgt := 13) rfl (fun hc1 => ?_) (fun hc1 => ?_)
    · have h := h.1 hc1
      exact tJ13 _ _ h _ _ _ (lv_sub hl [] rfl) hP hS
    · have h := h.2 hc1
      refine lv_iconst (v := (1 : Int32)) hx hb d_Md_in_9 (by decide) ?_
      refine lv_goto hx hb d_Md_in_10 (tgt := 14) rfl ?_
      exact x_zret hx hb hr hlocks hP hS (by decide) h d_Md_in_14
set_option maxHeartbeats 4000000 in
set_option maxRecDepth 100000 in
theorem c_Md_keys (l : Launch) (D : va_G) (κ : Nat → ClassId) {Θ : Nat → Nat} (hΘ : xJ 34 Θ) (sz : Nat) (p1 : Int32) (p2 : Int32) (p3 : Int32) (I : SI) (J : SJ) (post : SI → SJ → Prop) (h : p_Md_keys p1 p2 p3 post I J) : Met l y_Md_keys WS rm_Md_keys (va_Pc [.ref (Θ (0)), .int p1, .int p2, .int p3] (xPR D clA (tysA κ) 34 Θ (eM Θ κ) sz I J)) (xQv D clA 34 Θ (eM Θ κ) sz post) 0 0 (xA 34 Θ sz) := by
  refine xMet (cc := b_Md_keys) (maxL := 4) (ret := none) (by decide) q_Md_keys.1 ?_
  intro p e s m args below meth c s₁ B hml hv
  obtain ⟨hargs, hsz, hP, hK, hN, hG⟩ := hv
  have hx := B.exec
  have hb := B.bytes
  have hr := B.returns
  have hlocks := B.notSynchronized
  have hts := atoms_spec (ws := WS) B.pre
  have hown : s.vm.findClass R_Md = some m.cls := findClass_of_methodNamed B.named
  have C : xC p m c b_Md_keys 4 s args R_Md D clA (tysA κ) 34 Θ sz := ⟨⟨hx, hb, hml, hown, hts⟩, hK, hN, hG, hsz⟩
  have hS : va_S (xA 34 Θ sz) s.heap s.heap [] := va_S.rf
  have tJ15 : ∀ (s0 : Int32) (I : SI) (J : SJ), p_Md_keys_15 p1 p2 p3 post s0 I J → ∀ (H : Heap) (locs : List Loc) (ls : Array Slot), lv_has ls 4 [(0, .ref (Θ (0))), (1, .int p1), (2, .int p2), (3, .int p3)] → va_P D clA (xw 34 Θ (eM Θ κ) I J) H → va_S (xA 34 Θ sz) s.heap H locs → W p l e (headSpec WS rm_Md_keys).room s m args below meth c H locs 0 0 (MQ below (xQv D clA 34 Θ (eM Θ κ) sz post) args s 0 0 (xA 34 Θ sz)) (F0 m 15 ls [.int s0, .ref (Θ (0))]) := by
    intro s0 I J h H locs ls hl hP hS
    unfold p_Md_keys_15 at h
    refine pfM_Md_7 C hΘ hP hS d_Md_keys_15 (fun H locs hP hS => ?_)
    obtain ⟨I4, eI4⟩ : ∃ y, y = xu I (0) 0 s0 := ⟨_, rfl⟩
    have hP : va_P D clA (xw 34 Θ (eM Θ κ) I4 J) H := by rw [eI4]; exact hP
    have h := h I4 eI4
    refine lv_aload_n hx hb d_Md_keys_18 rfl (lv_at hl 0 rfl) ?_
    refine gfM_Md_7 C hP d_Md_keys_19 ?_
    refine lv_if_ne hx hb d_Md_keys_22 (tgt := 39) rfl (fun hc9 => ?_) (fun hc9 => ?_)
    · have h := h.1 hc9
      exact x_vret hx hb hr hlocks hP hS h d_Md_keys_39
    · have h := h.2 hc9
      refine lv_aload_n hx hb d_Md_keys_25 rfl (lv_at hl 0 rfl) ?_
      refine gfM_Md_30 C hP d_Md_keys_26 ?_
      refine lv_iload_n hx hb d_Md_keys_29 rfl (lv_at hl 1 rfl) ?_
      refine lv_iload_n hx hb d_Md_keys_30 rfl (lv_at hl 2 rfl) ?_
      obtain ⟨j5, ej5, h_j5, h⟩ := h
      refine x_iast hx hb hK hΘ hP hS (4) 0 (Nat.le_of_ble_eq_true rfl) eM_ownKey rfl ej5 h_j5 (by decide) d_Md_keys_31 (fun H locs hP hS => ?_)
      obtain ⟨I6, eI6⟩ : ∃ y, y = xu I4 (4) j5 p2 := ⟨_, rfl⟩
      have hP : va_P D clA (xw 34 Θ (eM Θ κ) I6 J) H := by rw [eI6]; exact hP
      have h := h I6 eI6
      refine lv_aload_n hx hb d_Md_keys_32 rfl (lv_at hl 0 rfl) ?_
      refine gfM_Md_33 C hP d_Md_keys_33 ?_
      refine lv_iload_n hx hb d_Md_keys_36 rfl (lv_at hl 1 rfl) ?_
      refine lv_iload_n hx hb d_Md_keys_37 rfl (lv_at hl 3 rfl) ?_
      obtain ⟨j7, ej7, h_j7, h⟩ := h
      refine x_iast hx hb hK hΘ hP hS (5) 0 (Nat.le_of_ble_eq_true rfl) eM_knownKey rfl ej7 h_j7 (by decide) d_Md_keys_38 (fun H locs hP hS => ?_)
      obtain ⟨I8, eI8⟩ : ∃ y, y = xu I6 (5) j7 p3 := ⟨_, rfl⟩
      have hP : va_P D clA (xw 34 Θ (eM Θ κ) I8 J) H := by rw [eI8]; exact hP
      have h := h I8 eI8
      exact x_vret hx hb hr hlocks hP hS h d_Md_keys_39
  have hE := lg_entry_eq m [.ref (Θ (0)), .int p1, .int p2, .int p3] 4
  rw [← hargs] at hE
  rw [hE]
  have hl := lv_entry [.ref (Θ (0)), .int p1, .int p2, .int p3] (n := 4) (Nat.le_of_ble_eq_true rfl)
  generalize (lg_sl [.ref (Θ (0)), .int p1, .int p2, .int p3] ++ List.replicate (4 - (lg_sl [.ref (Θ (0)), .int p1, .int p2, .int p3]).length) Slot.unset).toArray = ls at hl ⊢
  have hl : lv_has ls 4 [(0, .ref (Θ (0))), (1, .int p1), (2, .int p2), (3, .int p3)] := hl
  unfold p_Md_keys at h
  refine lv_aload_n hx hb d_Md_keys_0 rfl (lv_at hl 0 rfl) ?_
  refine lv_iload_n hx hb d_Md_keys_1 rfl (lv_at hl 1 rfl) ?_
  refine lv_bipush (v := (8 : Int32)) hx hb d_Md_keys_2 (by decide) ?_
  refine x_gi (x_S C hP hS (c_Md_in l D κ hΘ sz p1 (8 : Int32) I J _ h) q_Md_in k_887 k_886 rfl rfl ⟨Nat.le_of_ble_eq_true rfl, Nat.le_of_ble_eq_true rfl⟩ rfl hl.1 rfl (Nat.le_of_ble_eq_true rfl) d_Md_keys_4) hS (fun r3 I1 J2 h H locs hP hS => ?_)
  refine lv_if_eq hx hb d_Md_keys_7 (tgt := 14) rfl (fun hc10 => ?_) (fun hc10 => ?_)
  · have h := h.1 hc10
    refine lv_iconst (v := (1 : Int32)) hx hb d_Md_keys_14 (by decide) ?_
    exact tJ15 _ _ _ h _ _ _ (lv_sub hl [0, 1, 2, 3] rfl) hP hS
  · have h := h.2 hc10
    refine lv_iconst (v := (0 : Int32)) hx hb d_Md_keys_10 (by decide) ?_
    refine lv_goto hx hb d_Md_keys_11 (tgt := 15) rfl ?_
    exact tJ15 _ _ _ h _ _ _ (lv_sub hl [0, 1, 2, 3] rfl) hP hS
set_option maxHeartbeats 4000000 in
set_option maxRecDepth 100000 in
theorem c_Md_group (l : Launch) (D : va_G) (κ : Nat → ClassId) {Θ : Nat → Nat} (hΘ : xJ 34 Θ) (sz : Nat) (p1 : Int32) (p2 : Int32) (I : SI) (J : SJ) (post : SI → SJ → Prop) (h : p_Md_group p1 p2 post I J) : Met l y_Md_group WS rm_Md_group (va_Pc [.ref (Θ (0)), .int p1, .int p2] (xPR D clA (tysA κ) 34 Θ (eM Θ κ) sz I J)) (xQv D clA 34 Θ (eM Θ κ) sz post) 0 0 (xA 34 Θ sz) := by
  refine xMet (cc := b_Md_group) (maxL := 3) (ret := none) (by decide) q_Md_group.1 ?_
  intro p e s m args below meth c s₁ B hml hv
  obtain ⟨hargs, hsz, hP, hK, hN, hG⟩ := hv
  have hx := B.exec
  have hb := B.bytes
  have hr := B.returns
  have hlocks := B.notSynchronized
  have hts := atoms_spec (ws := WS) B.pre
  have hown : s.vm.findClass R_Md = some m.cls := findClass_of_methodNamed B.named
  have C : xC p m c b_Md_group 3 s args R_Md D clA (tysA κ) 34 Θ sz := ⟨⟨hx, hb, hml, hown, hts⟩, hK, hN, hG, hsz⟩
  have hS : va_S (xA 34 Θ sz) s.heap s.heap [] := va_S.rf
  have tJ14 : ∀ (s0 : Int32) (I : SI) (J : SJ), p_Md_group_14 p1 p2 post s0 I J → ∀ (H : Heap) (locs : List Loc) (ls : Array Slot), lv_has ls 3 [(0, .ref (Θ (0))), (1, .int p1), (2, .int p2)] → va_P D clA (xw 34 Θ (eM Θ κ) I J) H → va_S (xA 34 Θ sz) s.heap H locs → W p l e (headSpec WS rm_Md_group).room s m args below meth c H locs 0 0 (MQ below (xQv D clA 34 Θ (eM Θ κ) sz post) args s 0 0 (xA 34 Θ sz)) (F0 m 14 ls [.int s0, .ref (Θ (0))]) := by
    intro s0 I J h H locs ls hl hP hS
    unfold p_Md_group_14 at h
    refine pfM_Md_7 C hΘ hP hS d_Md_group_14 (fun H locs hP hS => ?_)
    obtain ⟨I4, eI4⟩ : ∃ y, y = xu I (0) 0 s0 := ⟨_, rfl⟩
    have hP : va_P D clA (xw 34 Θ (eM Θ κ) I4 J) H := by rw [eI4]; exact hP
    have h := h I4 eI4
    refine lv_aload_n hx hb d_Md_group_17 rfl (lv_at hl 0 rfl) ?_
    refine gfM_Md_7 C hP d_Md_group_18 ?_
    refine lv_if_ne hx hb d_Md_group_21 (tgt := 31) rfl (fun hc7 => ?_) (fun hc7 => ?_)
    · have h := h.1 hc7
      exact x_vret hx hb hr hlocks hP hS h d_Md_group_31
    · have h := h.2 hc7
      refine lv_aload_n hx hb d_Md_group_24 rfl (lv_at hl 0 rfl) ?_
      refine gfM_Md_98 C hP d_Md_group_25 ?_
      refine lv_iload_n hx hb d_Md_group_28 rfl (lv_at hl 1 rfl) ?_
      refine lv_iload_n hx hb d_Md_group_29 rfl (lv_at hl 2 rfl) ?_
      obtain ⟨j5, ej5, h_j5, h⟩ := h
      refine x_iast hx hb hK hΘ hP hS (26) 0 (Nat.le_of_ble_eq_true rfl) eM_groupKey rfl ej5 h_j5 (by decide) d_Md_group_30 (fun H locs hP hS => ?_)
      obtain ⟨I6, eI6⟩ : ∃ y, y = xu I4 (26) j5 p2 := ⟨_, rfl⟩
      have hP : va_P D clA (xw 34 Θ (eM Θ κ) I6 J) H := by rw [eI6]; exact hP
      have h := h I6 eI6
      exact x_vret hx hb hr hlocks hP hS h d_Md_group_31
  have hE := lg_entry_eq m [.ref (Θ (0)), .int p1, .int p2] 3
  rw [← hargs] at hE
  rw [hE]
  have hl := lv_entry [.ref (Θ (0)), .int p1, .int p2] (n := 3) (Nat.le_of_ble_eq_true rfl)
  generalize (lg_sl [.ref (Θ (0)), .int p1, .int p2] ++ List.replicate (3 - (lg_sl [.ref (Θ (0)), .int p1, .int p2]).length) Slot.unset).toArray = ls at hl ⊢
  have hl : lv_has ls 3 [(0, .ref (Θ (0))), (1, .int p1), (2, .int p2)] := hl
  unfold p_Md_group at h
  refine lv_aload_n hx hb d_Md_group_0 rfl (lv_at hl 0 rfl) ?_
  refine lv_iload_n hx hb d_Md_group_1 rfl (lv_at hl 1 rfl) ?_
  refine lv_iconst (v := (4 : Int32)) hx hb d_Md_group_2 (by decide) ?_
  refine x_gi (x_S C hP hS (c_Md_in l D κ hΘ sz p1 (4 : Int32) I J _ h) q_Md_in k_887 k_886 rfl rfl ⟨Nat.le_of_ble_eq_true rfl, Nat.le_of_ble_eq_true rfl⟩ rfl hl.1 rfl (Nat.le_of_ble_eq_true rfl) d_Md_group_3) hS (fun r3 I1 J2 h H locs hP hS => ?_)
  refine lv_if_eq hx hb d_Md_group_6 (tgt := 13) rfl (fun hc8 => ?_) (fun hc8 => ?_)
  · have h := h.1 hc8
    refine lv_iconst (v := (1 : Int32)) hx hb d_Md_group_13 (by decide) ?_
    exact tJ14 _ _ _ h _ _ _ (lv_sub hl [0, 1, 2] rfl) hP hS
  · have h := h.2 hc8
    refine lv_iconst (v := (0 : Int32)) hx hb d_Md_group_9 (by decide) ?_
    refine lv_goto hx hb d_Md_group_10 (tgt := 14) rfl ?_
    exact tJ14 _ _ _ h _ _ _ (lv_sub hl [0, 1, 2] rfl) hP hS
set_option maxHeartbeats 4000000 in
set_option maxRecDepth 100000 in
theorem c_Md_member (l : Launch) (D : va_G) (κ : Nat → ClassId) {Θ : Nat → Nat} (hΘ : xJ 34 Θ) (sz : Nat) (p1 : Int32) (p2 : Int32) (I : SI) (J : SJ) (post : SI → SJ → Prop) (h : p_Md_member p1 p2 post I J) : Met l y_Md_member WS rm_Md_member (va_Pc [.ref (Θ (0)), .int p1, .int p2] (xPR D clA (tysA κ) 34 Θ (eM Θ κ) sz I J)) (xQv D clA 34 Θ (eM Θ κ) sz post) 0 0 (xA 34 Θ sz) := by
  refine xMet (cc := b_Md_member) (maxL := 3) (ret := none) (by decide) q_Md_member.1 ?_
  intro p e s m args below meth c s₁ B hml hv
  obtain ⟨hargs, hsz, hP, hK, hN, hG⟩ := hv
  have hx := B.exec
  have hb := B.bytes
  have hr := B.returns
  have hlocks := B.notSynchronized
  have hts := atoms_spec (ws := WS) B.pre
  have hown : s.vm.findClass R_Md = some m.cls := findClass_of_methodNamed B.named
  have C : xC p m c b_Md_member 3 s args R_Md D clA (tysA κ) 34 Θ sz := ⟨⟨hx, hb, hml, hown, hts⟩, hK, hN, hG, hsz⟩
  have hS : va_S (xA 34 Θ sz) s.heap s.heap [] := va_S.rf
  have tJ15 : ∀ (s0 : Int32) (I : SI) (J : SJ), p_Md_member_15 p1 p2 post s0 I J → ∀ (H : Heap) (locs : List Loc) (ls : Array Slot), lv_has ls 3 [(0, .ref (Θ (0))), (1, .int p1), (2, .int p2)] → va_P D clA (xw 34 Θ (eM Θ κ) I J) H → va_S (xA 34 Θ sz) s.heap H locs → W p l e (headSpec WS rm_Md_member).room s m args below meth c H locs 0 0 (MQ below (xQv D clA 34 Θ (eM Θ κ) sz post) args s 0 0 (xA 34 Θ sz)) (F0 m 15 ls [.int s0, .ref (Θ (0))]) := by
    intro s0 I J h H locs ls hl hP hS
    unfold p_Md_member_15 at h
    refine pfM_Md_7 C hΘ hP hS d_Md_member_15 (fun H locs hP hS => ?_)
    obtain ⟨I4, eI4⟩ : ∃ y, y = xu I (0) 0 s0 := ⟨_, rfl⟩
    have hP : va_P D clA (xw 34 Θ (eM Θ κ) I4 J) H := by rw [eI4]; exact hP
    have h := h I4 eI4
    refine lv_aload_n hx hb d_Md_member_18 rfl (lv_at hl 0 rfl) ?_
    refine gfM_Md_7 C hP d_Md_member_19 ?_
    refine lv_if_ne hx hb d_Md_member_22 (tgt := 35) rfl (fun hc7 => ?_) (fun hc7 => ?_)
    · have h := h.1 hc7
      exact x_vret hx hb hr hlocks hP hS h d_Md_member_35
    · have h := h.2 hc7
      refine lv_aload_n hx hb d_Md_member_25 rfl (lv_at hl 0 rfl) ?_
      refine gfM_Md_36 C hP d_Md_member_26 ?_
      refine lv_iload_n hx hb d_Md_member_29 rfl (lv_at hl 1 rfl) ?_
      refine lv_iload_n hx hb d_Md_member_30 rfl (lv_at hl 2 rfl) ?_
      refine lv_bipush (v := (15 : Int32)) hx hb d_Md_member_31 (by decide) ?_
      refine lv_iand hx hb d_Md_member_33 ?_
      obtain ⟨j5, ej5, h_j5, h⟩ := h
      refine x_iast hx hb hK hΘ hP hS (6) 0 (Nat.le_of_ble_eq_true rfl) eM_groups rfl ej5 h_j5 (by decide) d_Md_member_34 (fun H locs hP hS => ?_)
      obtain ⟨I6, eI6⟩ : ∃ y, y = xu I4 (6) j5 (p2 &&& (15 : Int32)) := ⟨_, rfl⟩
      have hP : va_P D clA (xw 34 Θ (eM Θ κ) I6 J) H := by rw [eI6]; exact hP
      have h := h I6 eI6
      exact x_vret hx hb hr hlocks hP hS h d_Md_member_35
  have hE := lg_entry_eq m [.ref (Θ (0)), .int p1, .int p2] 3
  rw [← hargs] at hE
  rw [hE]
  have hl := lv_entry [.ref (Θ (0)), .int p1, .int p2] (n := 3) (Nat.le_of_ble_eq_true rfl)
  generalize (lg_sl [.ref (Θ (0)), .int p1, .int p2] ++ List.replicate (3 - (lg_sl [.ref (Θ (0)), .int p1, .int p2]).length) Slot.unset).toArray = ls at hl ⊢
  have hl : lv_has ls 3 [(0, .ref (Θ (0))), (1, .int p1), (2, .int p2)] := hl
  unfold p_Md_member at h
  refine lv_aload_n hx hb d_Md_member_0 rfl (lv_at hl 0 rfl) ?_
  refine lv_iload_n hx hb d_Md_member_1 rfl (lv_at hl 1 rfl) ?_
  refine lv_bipush (v := (8 : Int32)) hx hb d_Md_member_2 (by decide) ?_
  refine x_gi (x_S C hP hS (c_Md_in l D κ hΘ sz p1 (8 : Int32) I J _ h) q_Md_in k_887 k_886 rfl rfl ⟨Nat.le_of_ble_eq_true rfl, Nat.le_of_ble_eq_true rfl⟩ rfl hl.1 rfl (Nat.le_of_ble_eq_true rfl) d_Md_member_4) hS (fun r3 I1 J2 h H locs hP hS => ?_)
  refine lv_if_eq hx hb d_Md_member_7 (tgt := 14) rfl (fun hc8 => ?_) (fun hc8 => ?_)
  · have h := h.1 hc8
    refine lv_iconst (v := (1 : Int32)) hx hb d_Md_member_14 (by decide) ?_
    exact tJ15 _ _ _ h _ _ _ (lv_sub hl [0, 1, 2] rfl) hP hS
  · have h := h.2 hc8
    refine lv_iconst (v := (0 : Int32)) hx hb d_Md_member_10 (by decide) ?_
    refine lv_goto hx hb d_Md_member_11 (tgt := 15) rfl ?_
    exact tJ15 _ _ _ h _ _ _ (lv_sub hl [0, 1, 2] rfl) hP hS
set_option maxHeartbeats 4000000 in
set_option maxRecDepth 100000 in
theorem c_Md_move (l : Launch) (D : va_G) (κ : Nat → ClassId) {Θ : Nat → Nat} (hΘ : xJ 34 Θ) (sz : Nat) (p1 : Int32) (p2 : Int32) (I : SI) (J : SJ) (post : SI → SJ → Prop) (h : p_Md_move p1 p2 post I J) : Met l y_Md_move WS rm_Md_move (va_Pc [.ref (Θ (0)), .int p1, .int p2] (xPR D clA (tysA κ) 34 Θ (eM Θ κ) sz I J)) (xQv D clA 34 Θ (eM Θ κ) sz post) 0 0 (xA 34 Θ sz) := by
  refine xMet (cc := b_Md_move) (maxL := 3) (ret := none) (by decide) q_Md_move.1 ?_
  intro p e s m args below meth c s₁ B hml hv
  obtain ⟨hargs, hsz, hP, hK, hN, hG⟩ := hv
  have hx := B.exec
  have hb := B.bytes
  have hr := B.returns
  have hlocks := B.notSynchronized
  have hts := atoms_spec (ws := WS) B.pre
  have hown : s.vm.findClass R_Md = some m.cls := findClass_of_methodNamed B.named
  have C : xC p m c b_Md_move 3 s args R_Md D clA (tysA κ) 34 Θ sz := ⟨⟨hx, hb, hml, hown, hts⟩, hK, hN, hG, hsz⟩
  have hS : va_S (xA 34 Θ sz) s.heap s.heap [] := va_S.rf
  have tJ25 : ∀ (s0 : Int32) (I : SI) (J : SJ), p_Md_move_25 p1 p2 post s0 I J → ∀ (H : Heap) (locs : List Loc) (ls : Array Slot), lv_has ls 3 [(0, .ref (Θ (0))), (1, .int p1), (2, .int p2)] → va_P D clA (xw 34 Θ (eM Θ κ) I J) H → va_S (xA 34 Θ sz) s.heap H locs → W p l e (headSpec WS rm_Md_move).room s m args below meth c H locs 0 0 (MQ below (xQv D clA 34 Θ (eM Θ κ) sz post) args s 0 0 (xA 34 Θ sz)) (F0 m 25 ls [.int s0, .ref (Θ (0))]) := by
    intro s0 I J h H locs ls hl hP hS
    unfold p_Md_move_25 at h
    refine pfM_Md_7 C hΘ hP hS d_Md_move_25 (fun H locs hP hS => ?_)
    obtain ⟨I4, eI4⟩ : ∃ y, y = xu I (0) 0 s0 := ⟨_, rfl⟩
    have hP : va_P D clA (xw 34 Θ (eM Θ κ) I4 J) H := by rw [eI4]; exact hP
    have h := h I4 eI4
    refine lv_aload_n hx hb d_Md_move_28 rfl (lv_at hl 0 rfl) ?_
    refine gfM_Md_7 C hP d_Md_move_29 ?_
    refine lv_if_ne hx hb d_Md_move_32 (tgt := 59) rfl (fun hc13 => ?_) (fun hc13 => ?_)
    · have h := h.1 hc13
      exact x_vret hx hb hr hlocks hP hS h d_Md_move_59
    · have h := h.2 hc13
      refine lv_aload_n hx hb d_Md_move_35 rfl (lv_at hl 0 rfl) ?_
      refine gfM_Md_27 C hP d_Md_move_36 ?_
      refine lv_iload_n hx hb d_Md_move_39 rfl (lv_at hl 1 rfl) ?_
      refine lv_iload_n hx hb d_Md_move_40 rfl (lv_at hl 2 rfl) ?_
      obtain ⟨j5, ej5, h_j5, h⟩ := h
      refine x_iast hx hb hK hΘ hP hS (3) 0 (Nat.le_of_ble_eq_true rfl) eM_cellOf rfl ej5 h_j5 (by decide) d_Md_move_41 (fun H locs hP hS => ?_)
      obtain ⟨I6, eI6⟩ : ∃ y, y = xu I4 (3) j5 p2 := ⟨_, rfl⟩
      have hP : va_P D clA (xw 34 Θ (eM Θ κ) I6 J) H := by rw [eI6]; exact hP
      have h := h I6 eI6
      refine lv_aload_n hx hb d_Md_move_42 rfl (lv_at hl 0 rfl) ?_
      refine lv_iload_n hx hb d_Md_move_43 rfl (lv_at hl 1 rfl) ?_
      refine x_gv (x_V C hP hS (Nat.le_of_ble_eq_true rfl) (eM_Md _ _) rfl (c_Md_noMessage l D κ hΘ sz p1 I6 J _ h) q_Md_noMessage k_903 sel_Md_noMessage k_901 rfl rfl ⟨Nat.le_of_ble_eq_true rfl, Nat.le_of_ble_eq_true rfl⟩ rfl hl.1 rfl (Nat.le_of_ble_eq_true rfl) d_Md_move_44) hS (fun I7 J8 h H locs hP hS => ?_)
      refine lv_aload_n hx hb d_Md_move_47 rfl (lv_at hl 0 rfl) ?_
      refine gfM_Md_67 C hP d_Md_move_48 ?_
      refine lv_iload_n hx hb d_Md_move_51 rfl (lv_at hl 1 rfl) ?_
      refine lv_iconst (v := (-1 : Int32)) hx hb d_Md_move_52 (by decide) ?_
      obtain ⟨j9, ej9, h_j9, h⟩ := h
      refine x_iast hx hb hK hΘ hP hS (16) 0 (Nat.le_of_ble_eq_true rfl) eM_presses rfl ej9 h_j9 (by decide) d_Md_move_53 (fun H locs hP hS => ?_)
      obtain ⟨I10, eI10⟩ : ∃ y, y = xu I7 (16) j9 (-1 : Int32) := ⟨_, rfl⟩
      have hP : va_P D clA (xw 34 Θ (eM Θ κ) I10 J8) H := by rw [eI10]; exact hP
      have h := h I10 eI10
      refine lv_aload_n hx hb d_Md_move_54 rfl (lv_at hl 0 rfl) ?_
      refine lv_iload_n hx hb d_Md_move_55 rfl (lv_at hl 1 rfl) ?_
      refine x_gv (x_V C hP hS (Nat.le_of_ble_eq_true rfl) (eM_Md _ _) rfl (c_Md_idle l D κ hΘ sz p1 I10 J8 _ h) q_Md_idle k_907 sel_Md_idle k_905 rfl rfl ⟨Nat.le_of_ble_eq_true rfl, Nat.le_of_ble_eq_true rfl⟩ rfl hl.1 rfl (Nat.le_of_ble_eq_true rfl) d_Md_move_56) hS (fun I11 J12 h H locs hP hS => ?_)
      exact x_vret hx hb hr hlocks hP hS h d_Md_move_59
  have tJ24 : ∀ (I : SI) (J : SJ), p_Md_move_24 p1 p2 post I J → ∀ (H : Heap) (locs : List Loc) (ls : Array Slot), lv_has ls 3 [(0, .ref (Θ (0))), (1, .int p1), (2, .int p2)] → va_P D clA (xw 34 Θ (eM Θ κ) I J) H → va_S (xA 34 Θ sz) s.heap H locs → W p l e (headSpec WS rm_Md_move).room s m args below meth c H locs 0 0 (MQ below (xQv D clA 34 Θ (eM Θ κ) sz post) args s 0 0 (xA 34 Θ sz)) (F0 m 24 ls [.ref (Θ (0))]) := by
    intro I J h H locs ls hl hP hS
    unfold p_Md_move_24 at h
    refine lv_iconst (v := (1 : Int32)) hx hb d_Md_move_24 (by decide) ?_
    exact tJ25 _ _ _ h _ _ _ (lv_sub hl [0, 1, 2] rfl) hP hS
  have hE := lg_entry_eq m [.ref (Θ (0)), .int p1, .int p2] 3
  rw [← hargs] at hE
  rw [hE]
  have hl := lv_entry [.ref (Θ (0)), .int p1, .int p2] (n := 3) (Nat.le_of_ble_eq_true rfl)
  generalize (lg_sl [.ref (Θ (0)), .int p1, .int p2] ++ List.replicate (3 - (lg_sl [.ref (Θ (0)), .int p1, .int p2]).length) Slot.unset).toArray = ls at hl ⊢
  have hl : lv_has ls 3 [(0, .ref (Θ (0))), (1, .int p1), (2, .int p2)] := hl
  unfold p_Md_move at h
  refine lv_aload_n hx hb d_Md_move_0 rfl (lv_at hl 0 rfl) ?_
  refine lv_iload_n hx hb d_Md_move_1 rfl (lv_at hl 1 rfl) ?_
  refine lv_bipush (v := (8 : Int32)) hx hb d_Md_move_2 (by decide) ?_
  refine x_gi (x_S C hP hS (c_Md_in l D κ hΘ sz p1 (8 : Int32) I J _ h) q_Md_in k_887 k_886 rfl rfl ⟨Nat.le_of_ble_eq_true rfl, Nat.le_of_ble_eq_true rfl⟩ rfl hl.1 rfl (Nat.le_of_ble_eq_true rfl) d_Md_move_4) hS (fun r3 I1 J2 h H locs hP hS => ?_)
  refine lv_if_eq hx hb d_Md_move_7 (tgt := 24) rfl (fun hc16 => ?_) (fun hc16 => ?_)
  · have h := h.1 hc16
    exact tJ24 _ _ h _ _ _ (lv_sub hl [0, 1, 2] rfl) hP hS
  · have h := h.2 hc16
    refine lv_iload_n hx hb d_Md_move_10 rfl (lv_at hl 2 rfl) ?_
    refine lv_iconst (v := (-1 : Int32)) hx hb d_Md_move_11 (by decide) ?_
    refine lv_icmp_lt hx hb d_Md_move_12 (tgt := 24) rfl (fun hc15 => ?_) (fun hc15 => ?_)
    · have h := h.1 hc15
      exact tJ24 _ _ h _ _ _ (lv_sub hl [0, 1, 2] rfl) hP hS
    · have h := h.2 hc15
      refine lv_iload_n hx hb d_Md_move_15 rfl (lv_at hl 2 rfl) ?_
      refine lv_iconst (v := (3 : Int32)) hx hb d_Md_move_16 (by decide) ?_
      refine lv_icmp_ge hx hb d_Md_move_17 (tgt := 24) rfl (fun hc14 => ?_) (fun hc14 => ?_)
      · have h := h.1 hc14
        exact tJ24 _ _ h _ _ _ (lv_sub hl [0, 1, 2] rfl) hP hS
      · have h := h.2 hc14
        refine lv_iconst (v := (0 : Int32)) hx hb d_Md_move_20 (by decide) ?_
        refine lv_goto hx hb d_Md_move_21 (tgt := 25) rfl ?_
        exact tJ25 _ _ _ h _ _ _ (lv_sub hl [0, 1, 2] rfl) hP hS
set_option maxHeartbeats 4000000 in
set_option maxRecDepth 100000 in
theorem c_Md_begin (l : Launch) (D : va_G) (κ : Nat → ClassId) {Θ : Nat → Nat} (hΘ : xJ 34 Θ) (sz : Nat) (p1 : Int32) (p2 : Int32) (p3 : Int32) (p4 : Int32) (I : SI) (J : SJ) (post : SI → SJ → Prop) (h : p_Md_begin p1 p2 p3 p4 post I J) : Met l y_Md_begin WS rm_Md_begin (va_Pc [.ref (Θ (0)), .int p1, .int p2, .int p3, .int p4] (xPR D clA (tysA κ) 34 Θ (eM Θ κ) sz I J)) (xQv D clA 34 Θ (eM Θ κ) sz post) 0 0 (xA 34 Θ sz) := by
  refine xMet (cc := b_Md_begin) (maxL := 5) (ret := none) (by decide) q_Md_begin.1 ?_
  intro p e s m args below meth c s₁ B hml hv
  obtain ⟨hargs, hsz, hP, hK, hN, hG⟩ := hv
  have hx := B.exec
  have hb := B.bytes
  have hr := B.returns
  have hlocks := B.notSynchronized
  have hts := atoms_spec (ws := WS) B.pre
  have hown : s.vm.findClass R_Md = some m.cls := findClass_of_methodNamed B.named
  have C : xC p m c b_Md_begin 5 s args R_Md D clA (tysA κ) 34 Θ sz := ⟨⟨hx, hb, hml, hown, hts⟩, hK, hN, hG, hsz⟩
  have hS : va_S (xA 34 Θ sz) s.heap s.heap [] := va_S.rf
  have hE := lg_entry_eq m [.ref (Θ (0)), .int p1, .int p2, .int p3, .int p4] 5
  rw [← hargs] at hE
  rw [hE]
  have hl := lv_entry [.ref (Θ (0)), .int p1, .int p2, .int p3, .int p4] (n := 5) (Nat.le_of_ble_eq_true rfl)
  generalize (lg_sl [.ref (Θ (0)), .int p1, .int p2, .int p3, .int p4] ++ List.replicate (5 - (lg_sl [.ref (Θ (0)), .int p1, .int p2, .int p3, .int p4]).length) Slot.unset).toArray = ls at hl ⊢
  have hl : lv_has ls 5 [(0, .ref (Θ (0))), (1, .int p1), (2, .int p2), (3, .int p3), (4, .int p4)] := hl
  unfold p_Md_begin at h
  refine lv_aload_n hx hb d_Md_begin_0 rfl (lv_at hl 0 rfl) ?_
  refine gfM_Md_39 C hP d_Md_begin_1 ?_
  refine lv_iload_n hx hb d_Md_begin_4 rfl (lv_at hl 1 rfl) ?_
  refine lv_iload_n hx hb d_Md_begin_5 rfl (lv_at hl 2 rfl) ?_
  obtain ⟨j1, ej1, h_j1, h⟩ := h
  refine x_iast hx hb hK hΘ hP hS (7) 0 (Nat.le_of_ble_eq_true rfl) eM_kind rfl ej1 h_j1 (by decide) d_Md_begin_6 (fun H locs hP hS => ?_)
  obtain ⟨I2, eI2⟩ : ∃ y, y = xu I (7) j1 p2 := ⟨_, rfl⟩
  have hP : va_P D clA (xw 34 Θ (eM Θ κ) I2 J) H := by rw [eI2]; exact hP
  have h := h I2 eI2
  refine lv_aload_n hx hb d_Md_begin_7 rfl (lv_at hl 0 rfl) ?_
  refine gfM_Md_42 C hP d_Md_begin_8 ?_
  refine lv_iload_n hx hb d_Md_begin_11 rfl (lv_at hl 1 rfl) ?_
  refine lv_iload_n hx hb d_Md_begin_12 rfl (lv_at hl 3 rfl) ?_
  obtain ⟨j3, ej3, h_j3, h⟩ := h
  refine x_iast hx hb hK hΘ hP hS (8) 0 (Nat.le_of_ble_eq_true rfl) eM_what rfl ej3 h_j3 (by decide) d_Md_begin_13 (fun H locs hP hS => ?_)
  obtain ⟨I4, eI4⟩ : ∃ y, y = xu I2 (8) j3 p3 := ⟨_, rfl⟩
  have hP : va_P D clA (xw 34 Θ (eM Θ κ) I4 J) H := by rw [eI4]; exact hP
  have h := h I4 eI4
  refine lv_aload_n hx hb d_Md_begin_14 rfl (lv_at hl 0 rfl) ?_
  refine gfM_Md_45 C hP d_Md_begin_15 ?_
  refine lv_iload_n hx hb d_Md_begin_18 rfl (lv_at hl 1 rfl) ?_
  refine lv_iload hx hb d_Md_begin_19 (lv_at hl 4 rfl) ?_
  obtain ⟨j5, ej5, h_j5, h⟩ := h
  refine x_iast hx hb hK hΘ hP hS (9) 0 (Nat.le_of_ble_eq_true rfl) eM_rest rfl ej5 h_j5 (by decide) d_Md_begin_21 (fun H locs hP hS => ?_)
  obtain ⟨I6, eI6⟩ : ∃ y, y = xu I4 (9) j5 p4 := ⟨_, rfl⟩
  have hP : va_P D clA (xw 34 Θ (eM Θ κ) I6 J) H := by rw [eI6]; exact hP
  have h := h I6 eI6
  refine lv_aload_n hx hb d_Md_begin_22 rfl (lv_at hl 0 rfl) ?_
  refine gfM_Md_48 C hP d_Md_begin_23 ?_
  refine lv_iload_n hx hb d_Md_begin_26 rfl (lv_at hl 1 rfl) ?_
  refine lv_iconst (v := (0 : Int32)) hx hb d_Md_begin_27 (by decide) ?_
  obtain ⟨j7, ej7, h_j7, h⟩ := h
  refine x_iast hx hb hK hΘ hP hS (10) 0 (Nat.le_of_ble_eq_true rfl) eM_tries rfl ej7 h_j7 (by decide) d_Md_begin_28 (fun H locs hP hS => ?_)
  obtain ⟨I8, eI8⟩ : ∃ y, y = xu I6 (10) j7 (0 : Int32) := ⟨_, rfl⟩
  have hP : va_P D clA (xw 34 Θ (eM Θ κ) I8 J) H := by rw [eI8]; exact hP
  have h := h I8 eI8
  refine lv_aload_n hx hb d_Md_begin_29 rfl (lv_at hl 0 rfl) ?_
  refine gfM_Md_51 C hP d_Md_begin_30 ?_
  refine lv_iload_n hx hb d_Md_begin_33 rfl (lv_at hl 1 rfl) ?_
  refine lv_iconst (v := (0 : Int32)) hx hb d_Md_begin_34 (by decide) ?_
  obtain ⟨j9, ej9, h_j9, h⟩ := h
  refine x_iast hx hb hK hΘ hP hS (11) 0 (Nat.le_of_ble_eq_true rfl) eM_wait rfl ej9 h_j9 (by decide) d_Md_begin_35 (fun H locs hP hS => ?_)
  obtain ⟨I10, eI10⟩ : ∃ y, y = xu I8 (11) j9 (0 : Int32) := ⟨_, rfl⟩
  have hP : va_P D clA (xw 34 Θ (eM Θ κ) I10 J) H := by rw [eI10]; exact hP
  have h := h I10 eI10
  exact x_vret hx hb hr hlocks hP hS h d_Md_begin_36
set_option maxHeartbeats 4000000 in
set_option maxRecDepth 100000 in
theorem c_Md_register (l : Launch) (D : va_G) (κ : Nat → ClassId) {Θ : Nat → Nat} (hΘ : xJ 34 Θ) (sz : Nat) (p1 : Int32) (I : SI) (J : SJ) (post : SI → SJ → Prop) (h : p_Md_register p1 post I J) : Met l y_Md_register WS rm_Md_register (va_Pc [.ref (Θ (0)), .int p1] (xPR D clA (tysA κ) 34 Θ (eM Θ κ) sz I J)) (xQv D clA 34 Θ (eM Θ κ) sz post) 0 0 (xA 34 Θ sz) := by
  refine xMet (cc := b_Md_register) (maxL := 2) (ret := none) (by decide) q_Md_register.1 ?_
  intro p e s m args below meth c s₁ B hml hv
  obtain ⟨hargs, hsz, hP, hK, hN, hG⟩ := hv
  have hx := B.exec
  have hb := B.bytes
  have hr := B.returns
  have hlocks := B.notSynchronized
  have hts := atoms_spec (ws := WS) B.pre
  have hown : s.vm.findClass R_Md = some m.cls := findClass_of_methodNamed B.named
  have C : xC p m c b_Md_register 2 s args R_Md D clA (tysA κ) 34 Θ sz := ⟨⟨hx, hb, hml, hown, hts⟩, hK, hN, hG, hsz⟩
  have hS : va_S (xA 34 Θ sz) s.heap s.heap [] := va_S.rf
  have tJ37 : ∀ (s0 : Int32) (I : SI) (J : SJ), p_Md_register_37 p1 post s0 I J → ∀ (H : Heap) (locs : List Loc) (ls : Array Slot), lv_has ls 2 [(0, .ref (Θ (0))), (1, .int p1)] → va_P D clA (xw 34 Θ (eM Θ κ) I J) H → va_S (xA 34 Θ sz) s.heap H locs → W p l e (headSpec WS rm_Md_register).room s m args below meth c H locs 0 0 (MQ below (xQv D clA 34 Θ (eM Θ κ) sz post) args s 0 0 (xA 34 Θ sz)) (F0 m 37 ls [.int s0, .ref (Θ (0))]) := by
    intro s0 I J h H locs ls hl hP hS
    unfold p_Md_register_37 at h
    refine pfM_Md_7 C hΘ hP hS d_Md_register_37 (fun H locs hP hS => ?_)
    obtain ⟨I5, eI5⟩ : ∃ y, y = xu I (0) 0 s0 := ⟨_, rfl⟩
    have hP : va_P D clA (xw 34 Θ (eM Θ κ) I5 J) H := by rw [eI5]; exact hP
    have h := h I5 eI5
    refine lv_aload_n hx hb d_Md_register_40 rfl (lv_at hl 0 rfl) ?_
    refine gfM_Md_7 C hP d_Md_register_41 ?_
    refine lv_if_ne hx hb d_Md_register_44 (tgt := 55) rfl (fun hc8 => ?_) (fun hc8 => ?_)
    · have h := h.1 hc8
      exact x_vret hx hb hr hlocks hP hS h d_Md_register_55
    · have h := h.2 hc8
      refine lv_aload_n hx hb d_Md_register_47 rfl (lv_at hl 0 rfl) ?_
      refine lv_iload_n hx hb d_Md_register_48 rfl (lv_at hl 1 rfl) ?_
      refine lv_iconst (v := (1 : Int32)) hx hb d_Md_register_49 (by decide) ?_
      refine lv_iconst (v := (0 : Int32)) hx hb d_Md_register_50 (by decide) ?_
      refine lv_iconst (v := (0 : Int32)) hx hb d_Md_register_51 (by decide) ?_
      refine x_gv (x_V C hP hS (Nat.le_of_ble_eq_true rfl) (eM_Md _ _) rfl (c_Md_begin l D κ hΘ sz p1 (1 : Int32) (0 : Int32) (0 : Int32) I5 J _ h) q_Md_begin k_915 sel_Md_begin k_913 rfl rfl ⟨Nat.le_of_ble_eq_true rfl, Nat.le_of_ble_eq_true rfl⟩ rfl hl.1 rfl (Nat.le_of_ble_eq_true rfl) d_Md_register_52) hS (fun I6 J7 h H locs hP hS => ?_)
      exact x_vret hx hb hr hlocks hP hS h d_Md_register_55
  have tJ32 : ∀ (I : SI) (J : SJ), p_Md_register_32 p1 post I J → ∀ (H : Heap) (locs : List Loc) (ls : Array Slot), lv_has ls 2 [(0, .ref (Θ (0))), (1, .int p1)] → va_P D clA (xw 34 Θ (eM Θ κ) I J) H → va_S (xA 34 Θ sz) s.heap H locs → W p l e (headSpec WS rm_Md_register).room s m args below meth c H locs 0 0 (MQ below (xQv D clA 34 Θ (eM Θ κ) sz post) args s 0 0 (xA 34 Θ sz)) (F0 m 32 ls [.ref (Θ (0))]) := by
    intro I J h H locs ls hl hP hS
    unfold p_Md_register_32 at h
    refine lv_iconst (v := (2 : Int32)) hx hb d_Md_register_32 (by decide) ?_
    refine lv_goto hx hb d_Md_register_33 (tgt := 37) rfl ?_
    exact tJ37 _ _ _ h _ _ _ (lv_sub hl [0, 1] rfl) hP hS
  have hE := lg_entry_eq m [.ref (Θ (0)), .int p1] 2
  rw [← hargs] at hE
  rw [hE]
  have hl := lv_entry [.ref (Θ (0)), .int p1] (n := 2) (Nat.le_of_ble_eq_true rfl)
  generalize (lg_sl [.ref (Θ (0)), .int p1] ++ List.replicate (2 - (lg_sl [.ref (Θ (0)), .int p1]).length) Slot.unset).toArray = ls at hl ⊢
  have hl : lv_has ls 2 [(0, .ref (Θ (0))), (1, .int p1)] := hl
  unfold p_Md_register at h
  refine lv_aload_n hx hb d_Md_register_0 rfl (lv_at hl 0 rfl) ?_
  refine lv_iload_n hx hb d_Md_register_1 rfl (lv_at hl 1 rfl) ?_
  refine lv_bipush (v := (8 : Int32)) hx hb d_Md_register_2 (by decide) ?_
  refine x_gi (x_S C hP hS (c_Md_in l D κ hΘ sz p1 (8 : Int32) I J _ h) q_Md_in k_887 k_886 rfl rfl ⟨Nat.le_of_ble_eq_true rfl, Nat.le_of_ble_eq_true rfl⟩ rfl hl.1 rfl (Nat.le_of_ble_eq_true rfl) d_Md_register_4) hS (fun r3 I1 J2 h H locs hP hS => ?_)
  refine lv_if_ne hx hb d_Md_register_7 (tgt := 14) rfl (fun hc12 => ?_) (fun hc12 => ?_)
  · have h := h.1 hc12
    refine lv_aload_n hx hb d_Md_register_14 rfl (lv_at hl 0 rfl) ?_
    refine gfM_Md_27 C hP d_Md_register_15 ?_
    refine lv_iload_n hx hb d_Md_register_18 rfl (lv_at hl 1 rfl) ?_
    obtain ⟨j4, ej4, h_j4, h⟩ := h
    refine x_iald hx hb hK hP (3) 0 (Nat.le_of_ble_eq_true rfl) eM_cellOf rfl ej4 h_j4 (by decide) d_Md_register_19 ?_
    refine lv_if_lt hx hb d_Md_register_20 (tgt := 32) rfl (fun hc11 => ?_) (fun hc11 => ?_)
    · have h := h.1 hc11
      exact tJ32 _ _ h _ _ _ (lv_sub hl [0, 1] rfl) hP hS
    · have h := h.2 hc11
      refine lv_aload_n hx hb d_Md_register_23 rfl (lv_at hl 0 rfl) ?_
      refine gfM_Md_39 C hP d_Md_register_24 ?_
      refine lv_iload_n hx hb d_Md_register_27 rfl (lv_at hl 1 rfl) ?_
      obtain ⟨j9, ej9, h_j9, h⟩ := h
      refine x_iald hx hb hK hP (7) 0 (Nat.le_of_ble_eq_true rfl) eM_kind rfl ej9 h_j9 (by decide) d_Md_register_28 ?_
      refine lv_if_le hx hb d_Md_register_29 (tgt := 36) rfl (fun hc10 => ?_) (fun hc10 => ?_)
      · have h := h.1 hc10
        refine lv_iconst (v := (0 : Int32)) hx hb d_Md_register_36 (by decide) ?_
        exact tJ37 _ _ _ h _ _ _ (lv_sub hl [0, 1] rfl) hP hS
      · have h := h.2 hc10
        exact tJ32 _ _ h _ _ _ (lv_sub hl [0, 1] rfl) hP hS
  · have h := h.2 hc12
    refine lv_iconst (v := (1 : Int32)) hx hb d_Md_register_10 (by decide) ?_
    refine lv_goto hx hb d_Md_register_11 (tgt := 37) rfl ?_
    exact tJ37 _ _ _ h _ _ _ (lv_sub hl [0, 1] rfl) hP hS
set_option maxHeartbeats 4000000 in
set_option maxRecDepth 100000 in
theorem c_Md_press (l : Launch) (D : va_G) (κ : Nat → ClassId) {Θ : Nat → Nat} (hΘ : xJ 34 Θ) (sz : Nat) (p1 : Int32) (p2 : Int32) (p3 : Int32) (I : SI) (J : SJ) (post : SI → SJ → Prop) (h : p_Md_press p1 p2 p3 post I J) : Met l y_Md_press WS rm_Md_press (va_Pc [.ref (Θ (0)), .int p1, .int p2, .int p3] (xPR D clA (tysA κ) 34 Θ (eM Θ κ) sz I J)) (xQv D clA 34 Θ (eM Θ κ) sz post) 0 0 (xA 34 Θ sz) := by
  refine xMet (cc := b_Md_press) (maxL := 4) (ret := none) (by decide) q_Md_press.1 ?_
  intro p e s m args below meth c s₁ B hml hv
  obtain ⟨hargs, hsz, hP, hK, hN, hG⟩ := hv
  have hx := B.exec
  have hb := B.bytes
  have hr := B.returns
  have hlocks := B.notSynchronized
  have hts := atoms_spec (ws := WS) B.pre
  have hown : s.vm.findClass R_Md = some m.cls := findClass_of_methodNamed B.named
  have C : xC p m c b_Md_press 4 s args R_Md D clA (tysA κ) 34 Θ sz := ⟨⟨hx, hb, hml, hown, hts⟩, hK, hN, hG, hsz⟩
  have hS : va_S (xA 34 Θ sz) s.heap s.heap [] := va_S.rf
  have tJ54 : ∀ (s0 : Int32) (I : SI) (J : SJ), p_Md_press_54 p1 p2 p3 post s0 I J → ∀ (H : Heap) (locs : List Loc) (ls : Array Slot), lv_has ls 4 [(0, .ref (Θ (0))), (1, .int p1), (2, .int p2), (3, .int p3)] → va_P D clA (xw 34 Θ (eM Θ κ) I J) H → va_S (xA 34 Θ sz) s.heap H locs → W p l e (headSpec WS rm_Md_press).room s m args below meth c H locs 0 0 (MQ below (xQv D clA 34 Θ (eM Θ κ) sz post) args s 0 0 (xA 34 Θ sz)) (F0 m 54 ls [.int s0, .ref (Θ (0))]) := by
    intro s0 I J h H locs ls hl hP hS
    unfold p_Md_press_54 at h
    refine pfM_Md_7 C hΘ hP hS d_Md_press_54 (fun H locs hP hS => ?_)
    obtain ⟨I4, eI4⟩ : ∃ y, y = xu I (0) 0 s0 := ⟨_, rfl⟩
    have hP : va_P D clA (xw 34 Θ (eM Θ κ) I4 J) H := by rw [eI4]; exact hP
    have h := h I4 eI4
    refine lv_aload_n hx hb d_Md_press_57 rfl (lv_at hl 0 rfl) ?_
    refine gfM_Md_7 C hP d_Md_press_58 ?_
    refine lv_if_ne hx hb d_Md_press_61 (tgt := 85) rfl (fun hc9 => ?_) (fun hc9 => ?_)
    · have h := h.1 hc9
      exact x_vret hx hb hr hlocks hP hS h d_Md_press_85
    · have h := h.2 hc9
      refine lv_aload_n hx hb d_Md_press_64 rfl (lv_at hl 0 rfl) ?_
      refine gfM_Md_67 C hP d_Md_press_65 ?_
      refine lv_iload_n hx hb d_Md_press_68 rfl (lv_at hl 1 rfl) ?_
      refine lv_iload_n hx hb d_Md_press_69 rfl (lv_at hl 2 rfl) ?_
      obtain ⟨j5, ej5, h_j5, h⟩ := h
      refine x_iast hx hb hK hΘ hP hS (16) 0 (Nat.le_of_ble_eq_true rfl) eM_presses rfl ej5 h_j5 (by decide) d_Md_press_70 (fun H locs hP hS => ?_)
      obtain ⟨I6, eI6⟩ : ∃ y, y = xu I4 (16) j5 p2 := ⟨_, rfl⟩
      have hP : va_P D clA (xw 34 Θ (eM Θ κ) I6 J) H := by rw [eI6]; exact hP
      have h := h I6 eI6
      refine lv_aload_n hx hb d_Md_press_71 rfl (lv_at hl 0 rfl) ?_
      refine lv_iload_n hx hb d_Md_press_72 rfl (lv_at hl 1 rfl) ?_
      refine lv_iconst (v := (2 : Int32)) hx hb d_Md_press_73 (by decide) ?_
      refine lv_iconst (v := (4 : Int32)) hx hb d_Md_press_74 (by decide) ?_
      refine lv_iload_n hx hb d_Md_press_75 rfl (lv_at hl 2 rfl) ?_
      refine lv_imul hx hb d_Md_press_76 ?_
      refine lv_iload_n hx hb d_Md_press_77 rfl (lv_at hl 3 rfl) ?_
      refine lv_iconst (v := (3 : Int32)) hx hb d_Md_press_78 (by decide) ?_
      refine lv_iand hx hb d_Md_press_79 ?_
      refine lv_iadd hx hb d_Md_press_80 ?_
      refine lv_iconst (v := (0 : Int32)) hx hb d_Md_press_81 (by decide) ?_
      refine x_gv (x_V C hP hS (Nat.le_of_ble_eq_true rfl) (eM_Md _ _) rfl (c_Md_begin l D κ hΘ sz p1 (2 : Int32) (((4 : Int32) * p2) + (p3 &&& (3 : Int32))) (0 : Int32) I6 J _ h) q_Md_begin k_915 sel_Md_begin k_913 rfl rfl ⟨Nat.le_of_ble_eq_true rfl, Nat.le_of_ble_eq_true rfl⟩ rfl hl.1 rfl (Nat.le_of_ble_eq_true rfl) d_Md_press_82) hS (fun I7 J8 h H locs hP hS => ?_)
      exact x_vret hx hb hr hlocks hP hS h d_Md_press_85
  have tJ18 : ∀ (I : SI) (J : SJ), p_Md_press_18 p1 p2 p3 post I J → ∀ (H : Heap) (locs : List Loc) (ls : Array Slot), lv_has ls 4 [(0, .ref (Θ (0))), (1, .int p1), (2, .int p2), (3, .int p3)] → va_P D clA (xw 34 Θ (eM Θ κ) I J) H → va_S (xA 34 Θ sz) s.heap H locs → W p l e (headSpec WS rm_Md_press).room s m args below meth c H locs 0 0 (MQ below (xQv D clA 34 Θ (eM Θ κ) sz post) args s 0 0 (xA 34 Θ sz)) (F0 m 18 ls [.ref (Θ (0))]) := by
    intro I J h H locs ls hl hP hS
    unfold p_Md_press_18 at h
    refine lv_iconst (v := (1 : Int32)) hx hb d_Md_press_18 (by decide) ?_
    refine lv_goto hx hb d_Md_press_19 (tgt := 54) rfl ?_
    exact tJ54 _ _ _ h _ _ _ (lv_sub hl [0, 1, 2, 3] rfl) hP hS
  have tJ49 : ∀ (I : SI) (J : SJ), p_Md_press_49 p1 p2 p3 post I J → ∀ (H : Heap) (locs : List Loc) (ls : Array Slot), lv_has ls 4 [(0, .ref (Θ (0))), (1, .int p1), (2, .int p2), (3, .int p3)] → va_P D clA (xw 34 Θ (eM Θ κ) I J) H → va_S (xA 34 Θ sz) s.heap H locs → W p l e (headSpec WS rm_Md_press).room s m args below meth c H locs 0 0 (MQ below (xQv D clA 34 Θ (eM Θ κ) sz post) args s 0 0 (xA 34 Θ sz)) (F0 m 49 ls [.ref (Θ (0))]) := by
    intro I J h H locs ls hl hP hS
    unfold p_Md_press_49 at h
    refine lv_iconst (v := (2 : Int32)) hx hb d_Md_press_49 (by decide) ?_
    refine lv_goto hx hb d_Md_press_50 (tgt := 54) rfl ?_
    exact tJ54 _ _ _ h _ _ _ (lv_sub hl [0, 1, 2, 3] rfl) hP hS
  have hE := lg_entry_eq m [.ref (Θ (0)), .int p1, .int p2, .int p3] 4
  rw [← hargs] at hE
  rw [hE]
  have hl := lv_entry [.ref (Θ (0)), .int p1, .int p2, .int p3] (n := 4) (Nat.le_of_ble_eq_true rfl)
  generalize (lg_sl [.ref (Θ (0)), .int p1, .int p2, .int p3] ++ List.replicate (4 - (lg_sl [.ref (Θ (0)), .int p1, .int p2, .int p3]).length) Slot.unset).toArray = ls at hl ⊢
  have hl : lv_has ls 4 [(0, .ref (Θ (0))), (1, .int p1), (2, .int p2), (3, .int p3)] := hl
  unfold p_Md_press at h
  refine lv_aload_n hx hb d_Md_press_0 rfl (lv_at hl 0 rfl) ?_
  refine lv_iload_n hx hb d_Md_press_1 rfl (lv_at hl 1 rfl) ?_
  refine lv_bipush (v := (8 : Int32)) hx hb d_Md_press_2 (by decide) ?_
  refine x_gi (x_S C hP hS (c_Md_in l D κ hΘ sz p1 (8 : Int32) I J _ h) q_Md_in k_887 k_886 rfl rfl ⟨Nat.le_of_ble_eq_true rfl, Nat.le_of_ble_eq_true rfl⟩ rfl hl.1 rfl (Nat.le_of_ble_eq_true rfl) d_Md_press_4) hS (fun r3 I1 J2 h H locs hP hS => ?_)
  refine lv_if_eq hx hb d_Md_press_7 (tgt := 18) rfl (fun hc20 => ?_) (fun hc20 => ?_)
  · have h := h.1 hc20
    exact tJ18 _ _ h _ _ _ (lv_sub hl [0, 1, 2, 3] rfl) hP hS
  · have h := h.2 hc20
    refine lv_iload_n hx hb d_Md_press_10 rfl (lv_at hl 2 rfl) ?_
    refine lv_iconst (v := (4 : Int32)) hx hb d_Md_press_11 (by decide) ?_
    refine x_gi (x_S C hP hS (c_Md_in l D κ hΘ sz p2 (4 : Int32) I1 J2 _ h) q_Md_in k_887 k_886 rfl rfl ⟨Nat.le_of_ble_eq_true rfl, Nat.le_of_ble_eq_true rfl⟩ rfl hl.1 rfl (Nat.le_of_ble_eq_true rfl) d_Md_press_12) hS (fun r12 I10 J11 h H locs hP hS => ?_)
    refine lv_if_ne hx hb d_Md_press_15 (tgt := 22) rfl (fun hc19 => ?_) (fun hc19 => ?_)
    · have h := h.1 hc19
      refine lv_aload_n hx hb d_Md_press_22 rfl (lv_at hl 0 rfl) ?_
      refine gfM_Md_27 C hP d_Md_press_23 ?_
      refine lv_iload_n hx hb d_Md_press_26 rfl (lv_at hl 1 rfl) ?_
      obtain ⟨j13, ej13, h_j13, h⟩ := h
      refine x_iald hx hb hK hP (3) 0 (Nat.le_of_ble_eq_true rfl) eM_cellOf rfl ej13 h_j13 (by decide) d_Md_press_27 ?_
      refine lv_if_lt hx hb d_Md_press_28 (tgt := 49) rfl (fun hc18 => ?_) (fun hc18 => ?_)
      · have h := h.1 hc18
        exact tJ49 _ _ h _ _ _ (lv_sub hl [0, 1, 2, 3] rfl) hP hS
      · have h := h.2 hc18
        refine lv_aload_n hx hb d_Md_press_31 rfl (lv_at hl 0 rfl) ?_
        refine gfM_Md_39 C hP d_Md_press_32 ?_
        refine lv_iload_n hx hb d_Md_press_35 rfl (lv_at hl 1 rfl) ?_
        obtain ⟨j14, ej14, h_j14, h⟩ := h
        refine x_iald hx hb hK hP (7) 0 (Nat.le_of_ble_eq_true rfl) eM_kind rfl ej14 h_j14 (by decide) d_Md_press_36 ?_
        refine lv_if_gt hx hb d_Md_press_37 (tgt := 49) rfl (fun hc17 => ?_) (fun hc17 => ?_)
        · have h := h.1 hc17
          exact tJ49 _ _ h _ _ _ (lv_sub hl [0, 1, 2, 3] rfl) hP hS
        · have h := h.2 hc17
          refine lv_aload_n hx hb d_Md_press_40 rfl (lv_at hl 0 rfl) ?_
          refine gfM_Md_67 C hP d_Md_press_41 ?_
          refine lv_iload_n hx hb d_Md_press_44 rfl (lv_at hl 1 rfl) ?_
          obtain ⟨j15, ej15, h_j15, h⟩ := h
          refine x_iald hx hb hK hP (16) 0 (Nat.le_of_ble_eq_true rfl) eM_presses rfl ej15 h_j15 (by decide) d_Md_press_45 ?_
          refine lv_if_lt hx hb d_Md_press_46 (tgt := 53) rfl (fun hc16 => ?_) (fun hc16 => ?_)
          · have h := h.1 hc16
            refine lv_iconst (v := (0 : Int32)) hx hb d_Md_press_53 (by decide) ?_
            exact tJ54 _ _ _ h _ _ _ (lv_sub hl [0, 1, 2, 3] rfl) hP hS
          · have h := h.2 hc16
            exact tJ49 _ _ h _ _ _ (lv_sub hl [0, 1, 2, 3] rfl) hP hS
    · have h := h.2 hc19
      exact tJ18 _ _ h _ _ _ (lv_sub hl [0, 1, 2, 3] rfl) hP hS
set_option maxHeartbeats 4000000 in
set_option maxRecDepth 100000 in
theorem c_Md_release (l : Launch) (D : va_G) (κ : Nat → ClassId) {Θ : Nat → Nat} (hΘ : xJ 34 Θ) (sz : Nat) (p1 : Int32) (I : SI) (J : SJ) (post : SI → SJ → Prop) (h : p_Md_release p1 post I J) : Met l y_Md_release WS rm_Md_release (va_Pc [.ref (Θ (0)), .int p1] (xPR D clA (tysA κ) 34 Θ (eM Θ κ) sz I J)) (xQv D clA 34 Θ (eM Θ κ) sz post) 0 0 (xA 34 Θ sz) := by
  refine xMet (cc := b_Md_release) (maxL := 2) (ret := none) (by decide) q_Md_release.1 ?_
  intro p e s m args below meth c s₁ B hml hv
  obtain ⟨hargs, hsz, hP, hK, hN, hG⟩ := hv
  have hx := B.exec
  have hb := B.bytes
  have hr := B.returns
  have hlocks := B.notSynchronized
  have hts := atoms_spec (ws := WS) B.pre
  have hown : s.vm.findClass R_Md = some m.cls := findClass_of_methodNamed B.named
  have C : xC p m c b_Md_release 2 s args R_Md D clA (tysA κ) 34 Θ sz := ⟨⟨hx, hb, hml, hown, hts⟩, hK, hN, hG, hsz⟩
  have hS : va_S (xA 34 Θ sz) s.heap s.heap [] := va_S.rf
  have tJ15 : ∀ (s0 : Int32) (I : SI) (J : SJ), p_Md_release_15 p1 post s0 I J → ∀ (H : Heap) (locs : List Loc) (ls : Array Slot), lv_has ls 2 [(0, .ref (Θ (0))), (1, .int p1)] → va_P D clA (xw 34 Θ (eM Θ κ) I J) H → va_S (xA 34 Θ sz) s.heap H locs → W p l e (headSpec WS rm_Md_release).room s m args below meth c H locs 0 0 (MQ below (xQv D clA 34 Θ (eM Θ κ) sz post) args s 0 0 (xA 34 Θ sz)) (F0 m 15 ls [.int s0, .ref (Θ (0))]) := by
    intro s0 I J h H locs ls hl hP hS
    unfold p_Md_release_15 at h
    refine pfM_Md_7 C hΘ hP hS d_Md_release_15 (fun H locs hP hS => ?_)
    obtain ⟨I4, eI4⟩ : ∃ y, y = xu I (0) 0 s0 := ⟨_, rfl⟩
    have hP : va_P D clA (xw 34 Θ (eM Θ κ) I4 J) H := by rw [eI4]; exact hP
    have h := h I4 eI4
    refine lv_aload_n hx hb d_Md_release_18 rfl (lv_at hl 0 rfl) ?_
    refine gfM_Md_7 C hP d_Md_release_19 ?_
    refine lv_if_ne hx hb d_Md_release_22 (tgt := 47) rfl (fun hc11 => ?_) (fun hc11 => ?_)
    · have h := h.1 hc11
      exact x_vret hx hb hr hlocks hP hS h d_Md_release_47
    · have h := h.2 hc11
      refine lv_aload_n hx hb d_Md_release_25 rfl (lv_at hl 0 rfl) ?_
      refine gfM_Md_67 C hP d_Md_release_26 ?_
      refine lv_iload_n hx hb d_Md_release_29 rfl (lv_at hl 1 rfl) ?_
      refine lv_iconst (v := (-1 : Int32)) hx hb d_Md_release_30 (by decide) ?_
      obtain ⟨j5, ej5, h_j5, h⟩ := h
      refine x_iast hx hb hK hΘ hP hS (16) 0 (Nat.le_of_ble_eq_true rfl) eM_presses rfl ej5 h_j5 (by decide) d_Md_release_31 (fun H locs hP hS => ?_)
      obtain ⟨I6, eI6⟩ : ∃ y, y = xu I4 (16) j5 (-1 : Int32) := ⟨_, rfl⟩
      have hP : va_P D clA (xw 34 Θ (eM Θ κ) I6 J) H := by rw [eI6]; exact hP
      have h := h I6 eI6
      refine lv_aload_n hx hb d_Md_release_32 rfl (lv_at hl 0 rfl) ?_
      refine gfM_Md_39 C hP d_Md_release_33 ?_
      refine lv_iload_n hx hb d_Md_release_36 rfl (lv_at hl 1 rfl) ?_
      obtain ⟨j7, ej7, h_j7, h⟩ := h
      refine x_iald hx hb hK hP (7) 0 (Nat.le_of_ble_eq_true rfl) eM_kind rfl ej7 h_j7 (by decide) d_Md_release_37 ?_
      refine lv_iconst (v := (2 : Int32)) hx hb d_Md_release_38 (by decide) ?_
      refine lv_icmp_ne hx hb d_Md_release_39 (tgt := 47) rfl (fun hc10 => ?_) (fun hc10 => ?_)
      · have h := h.1 hc10
        exact x_vret hx hb hr hlocks hP hS h d_Md_release_47
      · have h := h.2 hc10
        refine lv_aload_n hx hb d_Md_release_42 rfl (lv_at hl 0 rfl) ?_
        refine lv_iload_n hx hb d_Md_release_43 rfl (lv_at hl 1 rfl) ?_
        refine x_gv (x_V C hP hS (Nat.le_of_ble_eq_true rfl) (eM_Md _ _) rfl (c_Md_noMessage l D κ hΘ sz p1 I6 J _ h) q_Md_noMessage k_903 sel_Md_noMessage k_901 rfl rfl ⟨Nat.le_of_ble_eq_true rfl, Nat.le_of_ble_eq_true rfl⟩ rfl hl.1 rfl (Nat.le_of_ble_eq_true rfl) d_Md_release_44) hS (fun I8 J9 h H locs hP hS => ?_)
        exact x_vret hx hb hr hlocks hP hS h d_Md_release_47
  have hE := lg_entry_eq m [.ref (Θ (0)), .int p1] 2
  rw [← hargs] at hE
  rw [hE]
  have hl := lv_entry [.ref (Θ (0)), .int p1] (n := 2) (Nat.le_of_ble_eq_true rfl)
  generalize (lg_sl [.ref (Θ (0)), .int p1] ++ List.replicate (2 - (lg_sl [.ref (Θ (0)), .int p1]).length) Slot.unset).toArray = ls at hl ⊢
  have hl : lv_has ls 2 [(0, .ref (Θ (0))), (1, .int p1)] := hl
  unfold p_Md_release at h
  refine lv_aload_n hx hb d_Md_release_0 rfl (lv_at hl 0 rfl) ?_
  refine lv_iload_n hx hb d_Md_release_1 rfl (lv_at hl 1 rfl) ?_
  refine lv_bipush (v := (8 : Int32)) hx hb d_Md_release_2 (by decide) ?_
  refine x_gi (x_S C hP hS (c_Md_in l D κ hΘ sz p1 (8 : Int32) I J _ h) q_Md_in k_887 k_886 rfl rfl ⟨Nat.le_of_ble_eq_true rfl, Nat.le_of_ble_eq_true rfl⟩ rfl hl.1 rfl (Nat.le_of_ble_eq_true rfl) d_Md_release_4) hS (fun r3 I1 J2 h H locs hP hS => ?_)
  refine lv_if_eq hx hb d_Md_release_7 (tgt := 14) rfl (fun hc12 => ?_) (fun hc12 => ?_)
  · have h := h.1 hc12
    refine lv_iconst (v := (1 : Int32)) hx hb d_Md_release_14 (by decide) ?_
    exact tJ15 _ _ _ h _ _ _ (lv_sub hl [0, 1] rfl) hP hS
  · have h := h.2 hc12
    refine lv_iconst (v := (0 : Int32)) hx hb d_Md_release_10 (by decide) ?_
    refine lv_goto hx hb d_Md_release_11 (tgt := 15) rfl ?_
    exact tJ15 _ _ _ h _ _ _ (lv_sub hl [0, 1] rfl) hP hS
set_option maxHeartbeats 4000000 in
set_option maxRecDepth 100000 in
theorem c_Md_send (l : Launch) (D : va_G) (κ : Nat → ClassId) {Θ : Nat → Nat} (hΘ : xJ 34 Θ) (sz : Nat) (p1 : Int32) (p2 : Int32) (p3 : Int32) (I : SI) (J : SJ) (post : SI → SJ → Prop) (h : p_Md_send p1 p2 p3 post I J) : Met l y_Md_send WS rm_Md_send (va_Pc [.ref (Θ (0)), .int p1, .int p2, .int p3] (xPR D clA (tysA κ) 34 Θ (eM Θ κ) sz I J)) (xQv D clA 34 Θ (eM Θ κ) sz post) 0 0 (xA 34 Θ sz) := by
  refine xMet (cc := b_Md_send) (maxL := 4) (ret := none) (by decide) q_Md_send.1 ?_
  intro p e s m args below meth c s₁ B hml hv
  obtain ⟨hargs, hsz, hP, hK, hN, hG⟩ := hv
  have hx := B.exec
  have hb := B.bytes
  have hr := B.returns
  have hlocks := B.notSynchronized
  have hts := atoms_spec (ws := WS) B.pre
  have hown : s.vm.findClass R_Md = some m.cls := findClass_of_methodNamed B.named
  have C : xC p m c b_Md_send 4 s args R_Md D clA (tysA κ) 34 Θ sz := ⟨⟨hx, hb, hml, hown, hts⟩, hK, hN, hG, hsz⟩
  have hS : va_S (xA 34 Θ sz) s.heap s.heap [] := va_S.rf
  have tJ46 : ∀ (s0 : Int32) (I : SI) (J : SJ), p_Md_send_46 p1 p2 p3 post s0 I J → ∀ (H : Heap) (locs : List Loc) (ls : Array Slot), lv_has ls 4 [(0, .ref (Θ (0))), (1, .int p1), (2, .int p2), (3, .int p3)] → va_P D clA (xw 34 Θ (eM Θ κ) I J) H → va_S (xA 34 Θ sz) s.heap H locs → W p l e (headSpec WS rm_Md_send).room s m args below meth c H locs 0 0 (MQ below (xQv D clA 34 Θ (eM Θ κ) sz post) args s 0 0 (xA 34 Θ sz)) (F0 m 46 ls [.int s0, .ref (Θ (0))]) := by
    intro s0 I J h H locs ls hl hP hS
    unfold p_Md_send_46 at h
    refine pfM_Md_7 C hΘ hP hS d_Md_send_46 (fun H locs hP hS => ?_)
    obtain ⟨I4, eI4⟩ : ∃ y, y = xu I (0) 0 s0 := ⟨_, rfl⟩
    have hP : va_P D clA (xw 34 Θ (eM Θ κ) I4 J) H := by rw [eI4]; exact hP
    have h := h I4 eI4
    refine lv_aload_n hx hb d_Md_send_49 rfl (lv_at hl 0 rfl) ?_
    refine gfM_Md_7 C hP d_Md_send_50 ?_
    refine lv_if_ne hx hb d_Md_send_53 (tgt := 68) rfl (fun hc7 => ?_) (fun hc7 => ?_)
    · have h := h.1 hc7
      exact x_vret hx hb hr hlocks hP hS h d_Md_send_68
    · have h := h.2 hc7
      refine lv_aload_n hx hb d_Md_send_56 rfl (lv_at hl 0 rfl) ?_
      refine lv_iload_n hx hb d_Md_send_57 rfl (lv_at hl 1 rfl) ?_
      refine lv_iconst (v := (3 : Int32)) hx hb d_Md_send_58 (by decide) ?_
      refine lv_iload_n hx hb d_Md_send_59 rfl (lv_at hl 2 rfl) ?_
      refine lv_iload_n hx hb d_Md_send_60 rfl (lv_at hl 3 rfl) ?_
      refine lv_sipush (v := (511 : Int32)) hx hb d_Md_send_61 (by decide) ?_
      refine lv_iand hx hb d_Md_send_64 ?_
      refine x_gv (x_V C hP hS (Nat.le_of_ble_eq_true rfl) (eM_Md _ _) rfl (c_Md_begin l D κ hΘ sz p1 (3 : Int32) p2 (p3 &&& (511 : Int32)) I4 J _ h) q_Md_begin k_915 sel_Md_begin k_913 rfl rfl ⟨Nat.le_of_ble_eq_true rfl, Nat.le_of_ble_eq_true rfl⟩ rfl hl.1 rfl (Nat.le_of_ble_eq_true rfl) d_Md_send_65) hS (fun I5 J6 h H locs hP hS => ?_)
      exact x_vret hx hb hr hlocks hP hS h d_Md_send_68
  have tJ19 : ∀ (I : SI) (J : SJ), p_Md_send_19 p1 p2 p3 post I J → ∀ (H : Heap) (locs : List Loc) (ls : Array Slot), lv_has ls 4 [(0, .ref (Θ (0))), (1, .int p1), (2, .int p2), (3, .int p3)] → va_P D clA (xw 34 Θ (eM Θ κ) I J) H → va_S (xA 34 Θ sz) s.heap H locs → W p l e (headSpec WS rm_Md_send).room s m args below meth c H locs 0 0 (MQ below (xQv D clA 34 Θ (eM Θ κ) sz post) args s 0 0 (xA 34 Θ sz)) (F0 m 19 ls [.ref (Θ (0))]) := by
    intro I J h H locs ls hl hP hS
    unfold p_Md_send_19 at h
    refine lv_iconst (v := (1 : Int32)) hx hb d_Md_send_19 (by decide) ?_
    refine lv_goto hx hb d_Md_send_20 (tgt := 46) rfl ?_
    exact tJ46 _ _ _ h _ _ _ (lv_sub hl [0, 1, 2, 3] rfl) hP hS
  have tJ41 : ∀ (I : SI) (J : SJ), p_Md_send_41 p1 p2 p3 post I J → ∀ (H : Heap) (locs : List Loc) (ls : Array Slot), lv_has ls 4 [(0, .ref (Θ (0))), (1, .int p1), (2, .int p2), (3, .int p3)] → va_P D clA (xw 34 Θ (eM Θ κ) I J) H → va_S (xA 34 Θ sz) s.heap H locs → W p l e (headSpec WS rm_Md_send).room s m args below meth c H locs 0 0 (MQ below (xQv D clA 34 Θ (eM Θ κ) sz post) args s 0 0 (xA 34 Θ sz)) (F0 m 41 ls [.ref (Θ (0))]) := by
    intro I J h H locs ls hl hP hS
    unfold p_Md_send_41 at h
    refine lv_iconst (v := (2 : Int32)) hx hb d_Md_send_41 (by decide) ?_
    refine lv_goto hx hb d_Md_send_42 (tgt := 46) rfl ?_
    exact tJ46 _ _ _ h _ _ _ (lv_sub hl [0, 1, 2, 3] rfl) hP hS
  have hE := lg_entry_eq m [.ref (Θ (0)), .int p1, .int p2, .int p3] 4
  rw [← hargs] at hE
  rw [hE]
  have hl := lv_entry [.ref (Θ (0)), .int p1, .int p2, .int p3] (n := 4) (Nat.le_of_ble_eq_true rfl)
  generalize (lg_sl [.ref (Θ (0)), .int p1, .int p2, .int p3] ++ List.replicate (4 - (lg_sl [.ref (Θ (0)), .int p1, .int p2, .int p3]).length) Slot.unset).toArray = ls at hl ⊢
  have hl : lv_has ls 4 [(0, .ref (Θ (0))), (1, .int p1), (2, .int p2), (3, .int p3)] := hl
  unfold p_Md_send at h
  refine lv_aload_n hx hb d_Md_send_0 rfl (lv_at hl 0 rfl) ?_
  refine lv_iload_n hx hb d_Md_send_1 rfl (lv_at hl 1 rfl) ?_
  refine lv_bipush (v := (8 : Int32)) hx hb d_Md_send_2 (by decide) ?_
  refine x_gi (x_S C hP hS (c_Md_in l D κ hΘ sz p1 (8 : Int32) I J _ h) q_Md_in k_887 k_886 rfl rfl ⟨Nat.le_of_ble_eq_true rfl, Nat.le_of_ble_eq_true rfl⟩ rfl hl.1 rfl (Nat.le_of_ble_eq_true rfl) d_Md_send_4) hS (fun r3 I1 J2 h H locs hP hS => ?_)
  refine lv_if_eq hx hb d_Md_send_7 (tgt := 19) rfl (fun hc16 => ?_) (fun hc16 => ?_)
  · have h := h.1 hc16
    exact tJ19 _ _ h _ _ _ (lv_sub hl [0, 1, 2, 3] rfl) hP hS
  · have h := h.2 hc16
    refine lv_iload_n hx hb d_Md_send_10 rfl (lv_at hl 2 rfl) ?_
    refine lv_bipush (v := (8 : Int32)) hx hb d_Md_send_11 (by decide) ?_
    refine x_gi (x_S C hP hS (c_Md_in l D κ hΘ sz p2 (8 : Int32) I1 J2 _ h) q_Md_in k_887 k_886 rfl rfl ⟨Nat.le_of_ble_eq_true rfl, Nat.le_of_ble_eq_true rfl⟩ rfl hl.1 rfl (Nat.le_of_ble_eq_true rfl) d_Md_send_13) hS (fun r10 I8 J9 h H locs hP hS => ?_)
    refine lv_if_ne hx hb d_Md_send_16 (tgt := 23) rfl (fun hc15 => ?_) (fun hc15 => ?_)
    · have h := h.1 hc15
      refine lv_aload_n hx hb d_Md_send_23 rfl (lv_at hl 0 rfl) ?_
      refine gfM_Md_27 C hP d_Md_send_24 ?_
      refine lv_iload_n hx hb d_Md_send_27 rfl (lv_at hl 1 rfl) ?_
      obtain ⟨j11, ej11, h_j11, h⟩ := h
      refine x_iald hx hb hK hP (3) 0 (Nat.le_of_ble_eq_true rfl) eM_cellOf rfl ej11 h_j11 (by decide) d_Md_send_28 ?_
      refine lv_if_lt hx hb d_Md_send_29 (tgt := 41) rfl (fun hc14 => ?_) (fun hc14 => ?_)
      · have h := h.1 hc14
        exact tJ41 _ _ h _ _ _ (lv_sub hl [0, 1, 2, 3] rfl) hP hS
      · have h := h.2 hc14
        refine lv_aload_n hx hb d_Md_send_32 rfl (lv_at hl 0 rfl) ?_
        refine gfM_Md_39 C hP d_Md_send_33 ?_
        refine lv_iload_n hx hb d_Md_send_36 rfl (lv_at hl 1 rfl) ?_
        obtain ⟨j12, ej12, h_j12, h⟩ := h
        refine x_iald hx hb hK hP (7) 0 (Nat.le_of_ble_eq_true rfl) eM_kind rfl ej12 h_j12 (by decide) d_Md_send_37 ?_
        refine lv_if_le hx hb d_Md_send_38 (tgt := 45) rfl (fun hc13 => ?_) (fun hc13 => ?_)
        · have h := h.1 hc13
          refine lv_iconst (v := (0 : Int32)) hx hb d_Md_send_45 (by decide) ?_
          exact tJ46 _ _ _ h _ _ _ (lv_sub hl [0, 1, 2, 3] rfl) hP hS
        · have h := h.2 hc13
          exact tJ41 _ _ h _ _ _ (lv_sub hl [0, 1, 2, 3] rfl) hP hS
    · have h := h.2 hc15
      exact tJ19 _ _ h _ _ _ (lv_sub hl [0, 1, 2, 3] rfl) hP hS
set_option maxHeartbeats 4000000 in
set_option maxRecDepth 100000 in
theorem c_Md_speak (l : Launch) (D : va_G) (κ : Nat → ClassId) {Θ : Nat → Nat} (hΘ : xJ 34 Θ) (sz : Nat) (p1 : Int32) (p2 : Int32) (I : SI) (J : SJ) (post : SI → SJ → Prop) (h : p_Md_speak p1 p2 post I J) : Met l y_Md_speak WS rm_Md_speak (va_Pc [.ref (Θ (0)), .int p1, .int p2] (xPR D clA (tysA κ) 34 Θ (eM Θ κ) sz I J)) (xQv D clA 34 Θ (eM Θ κ) sz post) 0 0 (xA 34 Θ sz) := by
  refine xMet (cc := b_Md_speak) (maxL := 3) (ret := none) (by decide) q_Md_speak.1 ?_
  intro p e s m args below meth c s₁ B hml hv
  obtain ⟨hargs, hsz, hP, hK, hN, hG⟩ := hv
  have hx := B.exec
  have hb := B.bytes
  have hr := B.returns
  have hlocks := B.notSynchronized
  have hts := atoms_spec (ws := WS) B.pre
  have hown : s.vm.findClass R_Md = some m.cls := findClass_of_methodNamed B.named
  have C : xC p m c b_Md_speak 3 s args R_Md D clA (tysA κ) 34 Θ sz := ⟨⟨hx, hb, hml, hown, hts⟩, hK, hN, hG, hsz⟩
  have hS : va_S (xA 34 Θ sz) s.heap s.heap [] := va_S.rf
  have tJ15 : ∀ (s0 : Int32) (I : SI) (J : SJ), p_Md_speak_15 p1 p2 post s0 I J → ∀ (H : Heap) (locs : List Loc) (ls : Array Slot), lv_has ls 3 [(0, .ref (Θ (0))), (1, .int p1), (2, .int p2)] → va_P D clA (xw 34 Θ (eM Θ κ) I J) H → va_S (xA 34 Θ sz) s.heap H locs → W p l e (headSpec WS rm_Md_speak).room s m args below meth c H locs 0 0 (MQ below (xQv D clA 34 Θ (eM Θ κ) sz post) args s 0 0 (xA 34 Θ sz)) (F0 m 15 ls [.int s0, .ref (Θ (0))]) := by
    intro s0 I J h H locs ls hl hP hS
    unfold p_Md_speak_15 at h
    refine pfM_Md_7 C hΘ hP hS d_Md_speak_15 (fun H locs hP hS => ?_)
    obtain ⟨I4, eI4⟩ : ∃ y, y = xu I (0) 0 s0 := ⟨_, rfl⟩
    have hP : va_P D clA (xw 34 Θ (eM Θ κ) I4 J) H := by rw [eI4]; exact hP
    have h := h I4 eI4
    refine lv_aload_n hx hb d_Md_speak_18 rfl (lv_at hl 0 rfl) ?_
    refine gfM_Md_7 C hP d_Md_speak_19 ?_
    refine lv_if_ne hx hb d_Md_speak_22 (tgt := 35) rfl (fun hc7 => ?_) (fun hc7 => ?_)
    · have h := h.1 hc7
      exact x_vret hx hb hr hlocks hP hS h d_Md_speak_35
    · have h := h.2 hc7
      refine lv_aload_n hx hb d_Md_speak_25 rfl (lv_at hl 0 rfl) ?_
      refine gfM_Md_70 C hP d_Md_speak_26 ?_
      refine lv_iload_n hx hb d_Md_speak_29 rfl (lv_at hl 1 rfl) ?_
      refine lv_iload_n hx hb d_Md_speak_30 rfl (lv_at hl 2 rfl) ?_
      refine lv_ldc (v := (524287 : Int32)) hx hb hown (hts _ k_933) d_Md_speak_31 ?_
      refine lv_iand hx hb d_Md_speak_33 ?_
      obtain ⟨j5, ej5, h_j5, h⟩ := h
      refine x_iast hx hb hK hΘ hP hS (17) 0 (Nat.le_of_ble_eq_true rfl) eM_speech rfl ej5 h_j5 (by decide) d_Md_speak_34 (fun H locs hP hS => ?_)
      obtain ⟨I6, eI6⟩ : ∃ y, y = xu I4 (17) j5 (p2 &&& (524287 : Int32)) := ⟨_, rfl⟩
      have hP : va_P D clA (xw 34 Θ (eM Θ κ) I6 J) H := by rw [eI6]; exact hP
      have h := h I6 eI6
      exact x_vret hx hb hr hlocks hP hS h d_Md_speak_35
  have hE := lg_entry_eq m [.ref (Θ (0)), .int p1, .int p2] 3
  rw [← hargs] at hE
  rw [hE]
  have hl := lv_entry [.ref (Θ (0)), .int p1, .int p2] (n := 3) (Nat.le_of_ble_eq_true rfl)
  generalize (lg_sl [.ref (Θ (0)), .int p1, .int p2] ++ List.replicate (3 - (lg_sl [.ref (Θ (0)), .int p1, .int p2]).length) Slot.unset).toArray = ls at hl ⊢
  have hl : lv_has ls 3 [(0, .ref (Θ (0))), (1, .int p1), (2, .int p2)] := hl
  unfold p_Md_speak at h
  refine lv_aload_n hx hb d_Md_speak_0 rfl (lv_at hl 0 rfl) ?_
  refine lv_iload_n hx hb d_Md_speak_1 rfl (lv_at hl 1 rfl) ?_
  refine lv_bipush (v := (8 : Int32)) hx hb d_Md_speak_2 (by decide) ?_
  refine x_gi (x_S C hP hS (c_Md_in l D κ hΘ sz p1 (8 : Int32) I J _ h) q_Md_in k_887 k_886 rfl rfl ⟨Nat.le_of_ble_eq_true rfl, Nat.le_of_ble_eq_true rfl⟩ rfl hl.1 rfl (Nat.le_of_ble_eq_true rfl) d_Md_speak_4) hS (fun r3 I1 J2 h H locs hP hS => ?_)
  refine lv_if_eq hx hb d_Md_speak_7 (tgt := 14) rfl (fun hc8 => ?_) (fun hc8 => ?_)
  · have h := h.1 hc8
    refine lv_iconst (v := (1 : Int32)) hx hb d_Md_speak_14 (by decide) ?_
    exact tJ15 _ _ _ h _ _ _ (lv_sub hl [0, 1, 2] rfl) hP hS
  · have h := h.2 hc8
    refine lv_iconst (v := (0 : Int32)) hx hb d_Md_speak_10 (by decide) ?_
    refine lv_goto hx hb d_Md_speak_11 (tgt := 15) rfl ?_
    exact tJ15 _ _ _ h _ _ _ (lv_sub hl [0, 1, 2] rfl) hP hS
set_option maxHeartbeats 4000000 in
set_option maxRecDepth 100000 in
theorem c_Md_draw (l : Launch) (D : va_G) (κ : Nat → ClassId) {Θ : Nat → Nat} (hΘ : xJ 34 Θ) (sz : Nat) (p1 : Int32) (p2 : Int32) (I : SI) (J : SJ) (post : SI → SJ → Prop) (h : p_Md_draw p1 p2 post I J) : Met l y_Md_draw WS rm_Md_draw (va_Pc [.ref (Θ (0)), .int p1, .int p2] (xPR D clA (tysA κ) 34 Θ (eM Θ κ) sz I J)) (xQv D clA 34 Θ (eM Θ κ) sz post) 0 0 (xA 34 Θ sz) := by
  refine xMet (cc := b_Md_draw) (maxL := 3) (ret := none) (by decide) q_Md_draw.1 ?_
  intro p e s m args below meth c s₁ B hml hv
  obtain ⟨hargs, hsz, hP, hK, hN, hG⟩ := hv
  have hx := B.exec
  have hb := B.bytes
  have hr := B.returns
  have hlocks := B.notSynchronized
  have hts := atoms_spec (ws := WS) B.pre
  have hown : s.vm.findClass R_Md = some m.cls := findClass_of_methodNamed B.named
  have C : xC p m c b_Md_draw 3 s args R_Md D clA (tysA κ) 34 Θ sz := ⟨⟨hx, hb, hml, hown, hts⟩, hK, hN, hG, hsz⟩
  have hS : va_S (xA 34 Θ sz) s.heap s.heap [] := va_S.rf
  have tJ43 : ∀ (s0 : Int32) (I : SI) (J : SJ), p_Md_draw_43 p1 p2 post s0 I J → ∀ (H : Heap) (locs : List Loc) (ls : Array Slot), lv_has ls 3 [(0, .ref (Θ (0))), (1, .int p1), (2, .int p2)] → va_P D clA (xw 34 Θ (eM Θ κ) I J) H → va_S (xA 34 Θ sz) s.heap H locs → W p l e (headSpec WS rm_Md_draw).room s m args below meth c H locs 0 0 (MQ below (xQv D clA 34 Θ (eM Θ κ) sz post) args s 0 0 (xA 34 Θ sz)) (F0 m 43 ls [.int s0, .ref (Θ (0))]) := by
    intro s0 I J h H locs ls hl hP hS
    unfold p_Md_draw_43 at h
    refine pfM_Md_7 C hΘ hP hS d_Md_draw_43 (fun H locs hP hS => ?_)
    obtain ⟨I8, eI8⟩ : ∃ y, y = xu I (0) 0 s0 := ⟨_, rfl⟩
    have hP : va_P D clA (xw 34 Θ (eM Θ κ) I8 J) H := by rw [eI8]; exact hP
    have h := h I8 eI8
    refine lv_aload_n hx hb d_Md_draw_46 rfl (lv_at hl 0 rfl) ?_
    refine gfM_Md_7 C hP d_Md_draw_47 ?_
    refine lv_if_ne hx hb d_Md_draw_50 (tgt := 84) rfl (fun hc15 => ?_) (fun hc15 => ?_)
    · have h := h.1 hc15
      exact x_vret hx hb hr hlocks hP hS h d_Md_draw_84
    · have h := h.2 hc15
      refine lv_aload_n hx hb d_Md_draw_53 rfl (lv_at hl 0 rfl) ?_
      refine gfM_Md_73 C hP d_Md_draw_54 ?_
      refine lv_bipush (v := (8 : Int32)) hx hb d_Md_draw_57 (by decide) ?_
      refine lv_iload_n hx hb d_Md_draw_59 rfl (lv_at hl 1 rfl) ?_
      refine lv_imul hx hb d_Md_draw_60 ?_
      refine lv_aload_n hx hb d_Md_draw_61 rfl (lv_at hl 0 rfl) ?_
      refine gfM_Md_76 C hP d_Md_draw_62 ?_
      refine lv_iload_n hx hb d_Md_draw_65 rfl (lv_at hl 1 rfl) ?_
      obtain ⟨j9, ej9, h_j9, h⟩ := h
      refine x_iald hx hb hK hP (19) 0 (Nat.le_of_ble_eq_true rfl) eM_drawCount rfl ej9 h_j9 (by decide) d_Md_draw_66 ?_
      refine lv_iadd hx hb d_Md_draw_67 ?_
      refine lv_iload_n hx hb d_Md_draw_68 rfl (lv_at hl 2 rfl) ?_
      obtain ⟨j10, ej10, h_j10, h⟩ := h
      refine x_iast hx hb hK hΘ hP hS (18) 0 (Nat.le_of_ble_eq_true rfl) eM_draws rfl ej10 h_j10 (by decide) d_Md_draw_69 (fun H locs hP hS => ?_)
      obtain ⟨I11, eI11⟩ : ∃ y, y = xu I8 (18) j10 p2 := ⟨_, rfl⟩
      have hP : va_P D clA (xw 34 Θ (eM Θ κ) I11 J) H := by rw [eI11]; exact hP
      have h := h I11 eI11
      refine lv_aload_n hx hb d_Md_draw_70 rfl (lv_at hl 0 rfl) ?_
      refine gfM_Md_76 C hP d_Md_draw_71 ?_
      refine lv_iload_n hx hb d_Md_draw_74 rfl (lv_at hl 1 rfl) ?_
      refine lv_aload_n hx hb d_Md_draw_75 rfl (lv_at hl 0 rfl) ?_
      refine gfM_Md_76 C hP d_Md_draw_76 ?_
      refine lv_iload_n hx hb d_Md_draw_79 rfl (lv_at hl 1 rfl) ?_
      obtain ⟨j12, ej12, h_j12, h⟩ := h
      refine x_iald hx hb hK hP (19) 0 (Nat.le_of_ble_eq_true rfl) eM_drawCount rfl ej12 h_j12 (by decide) d_Md_draw_80 ?_
      refine lv_iconst (v := (1 : Int32)) hx hb d_Md_draw_81 (by decide) ?_
      refine lv_iadd hx hb d_Md_draw_82 ?_
      obtain ⟨j13, ej13, h_j13, h⟩ := h
      refine x_iast hx hb hK hΘ hP hS (19) 0 (Nat.le_of_ble_eq_true rfl) eM_drawCount rfl ej13 h_j13 (by decide) d_Md_draw_83 (fun H locs hP hS => ?_)
      obtain ⟨I14, eI14⟩ : ∃ y, y = xu I11 (19) j13 ((I11 (19) j12) + (1 : Int32)) := ⟨_, rfl⟩
      have hP : va_P D clA (xw 34 Θ (eM Θ κ) I14 J) H := by rw [eI14]; exact hP
      have h := h I14 eI14
      exact x_vret hx hb hr hlocks hP hS h d_Md_draw_84
  have hE := lg_entry_eq m [.ref (Θ (0)), .int p1, .int p2] 3
  rw [← hargs] at hE
  rw [hE]
  have hl := lv_entry [.ref (Θ (0)), .int p1, .int p2] (n := 3) (Nat.le_of_ble_eq_true rfl)
  generalize (lg_sl [.ref (Θ (0)), .int p1, .int p2] ++ List.replicate (3 - (lg_sl [.ref (Θ (0)), .int p1, .int p2]).length) Slot.unset).toArray = ls at hl ⊢
  have hl : lv_has ls 3 [(0, .ref (Θ (0))), (1, .int p1), (2, .int p2)] := hl
  unfold p_Md_draw at h
  refine lv_aload_n hx hb d_Md_draw_0 rfl (lv_at hl 0 rfl) ?_
  refine lv_iload_n hx hb d_Md_draw_1 rfl (lv_at hl 1 rfl) ?_
  refine lv_bipush (v := (8 : Int32)) hx hb d_Md_draw_2 (by decide) ?_
  refine x_gi (x_S C hP hS (c_Md_in l D κ hΘ sz p1 (8 : Int32) I J _ h) q_Md_in k_887 k_886 rfl rfl ⟨Nat.le_of_ble_eq_true rfl, Nat.le_of_ble_eq_true rfl⟩ rfl hl.1 rfl (Nat.le_of_ble_eq_true rfl) d_Md_draw_4) hS (fun r3 I1 J2 h H locs hP hS => ?_)
  refine lv_if_ne hx hb d_Md_draw_7 (tgt := 14) rfl (fun hc18 => ?_) (fun hc18 => ?_)
  · have h := h.1 hc18
    refine lv_iload_n hx hb d_Md_draw_14 rfl (lv_at hl 2 rfl) ?_
    refine lv_bipush (v := (16 : Int32)) hx hb d_Md_draw_15 (by decide) ?_
    refine x_gi (x_S C hP hS (c_Md_in l D κ hΘ sz p2 (16 : Int32) I1 J2 _ h) q_Md_in k_887 k_886 rfl rfl ⟨Nat.le_of_ble_eq_true rfl, Nat.le_of_ble_eq_true rfl⟩ rfl hl.1 rfl (Nat.le_of_ble_eq_true rfl) d_Md_draw_17) hS (fun r6 I4 J5 h H locs hP hS => ?_)
    refine lv_if_ne hx hb d_Md_draw_20 (tgt := 27) rfl (fun hc17 => ?_) (fun hc17 => ?_)
    · have h := h.1 hc17
      refine lv_aload_n hx hb d_Md_draw_27 rfl (lv_at hl 0 rfl) ?_
      refine gfM_Md_76 C hP d_Md_draw_28 ?_
      refine lv_iload_n hx hb d_Md_draw_31 rfl (lv_at hl 1 rfl) ?_
      obtain ⟨j7, ej7, h_j7, h⟩ := h
      refine x_iald hx hb hK hP (19) 0 (Nat.le_of_ble_eq_true rfl) eM_drawCount rfl ej7 h_j7 (by decide) d_Md_draw_32 ?_
      refine lv_bipush (v := (8 : Int32)) hx hb d_Md_draw_33 (by decide) ?_
      refine lv_icmp_ne hx hb d_Md_draw_35 (tgt := 42) rfl (fun hc16 => ?_) (fun hc16 => ?_)
      · have h := h.1 hc16
        refine lv_iconst (v := (0 : Int32)) hx hb d_Md_draw_42 (by decide) ?_
        exact tJ43 _ _ _ h _ _ _ (lv_sub hl [0, 1, 2] rfl) hP hS
      · have h := h.2 hc16
        refine lv_iconst (v := (3 : Int32)) hx hb d_Md_draw_38 (by decide) ?_
        refine lv_goto hx hb d_Md_draw_39 (tgt := 43) rfl ?_
        exact tJ43 _ _ _ h _ _ _ (lv_sub hl [0, 1, 2] rfl) hP hS
    · have h := h.2 hc17
      refine lv_iconst (v := (2 : Int32)) hx hb d_Md_draw_23 (by decide) ?_
      refine lv_goto hx hb d_Md_draw_24 (tgt := 43) rfl ?_
      exact tJ43 _ _ _ h _ _ _ (lv_sub hl [0, 1, 2] rfl) hP hS
  · have h := h.2 hc18
    refine lv_iconst (v := (1 : Int32)) hx hb d_Md_draw_10 (by decide) ?_
    refine lv_goto hx hb d_Md_draw_11 (tgt := 43) rfl ?_
    exact tJ43 _ _ _ h _ _ _ (lv_sub hl [0, 1, 2] rfl) hP hS
set_option maxHeartbeats 4000000 in
set_option maxRecDepth 100000 in
theorem c_Md_fault (l : Launch) (D : va_G) (κ : Nat → ClassId) {Θ : Nat → Nat} (hΘ : xJ 34 Θ) (sz : Nat) (p1 : Int32) (p2 : Int64) (I : SI) (J : SJ) (post : SI → SJ → Prop) (h : p_Md_fault p1 p2 post I J) : Met l y_Md_fault WS rm_Md_fault (va_Pc [.ref (Θ (0)), .int p1, .long p2] (xPR D clA (tysA κ) 34 Θ (eM Θ κ) sz I J)) (xQv D clA 34 Θ (eM Θ κ) sz post) 0 0 (xA 34 Θ sz) := by
  refine xMet (cc := b_Md_fault) (maxL := 4) (ret := none) (by decide) q_Md_fault.1 ?_
  intro p e s m args below meth c s₁ B hml hv
  obtain ⟨hargs, hsz, hP, hK, hN, hG⟩ := hv
  have hx := B.exec
  have hb := B.bytes
  have hr := B.returns
  have hlocks := B.notSynchronized
  have hts := atoms_spec (ws := WS) B.pre
  have hown : s.vm.findClass R_Md = some m.cls := findClass_of_methodNamed B.named
  have C : xC p m c b_Md_fault 4 s args R_Md D clA (tysA κ) 34 Θ sz := ⟨⟨hx, hb, hml, hown, hts⟩, hK, hN, hG, hsz⟩
  have hS : va_S (xA 34 Θ sz) s.heap s.heap [] := va_S.rf
  have tJ15 : ∀ (s0 : Int32) (I : SI) (J : SJ), p_Md_fault_15 p1 p2 post s0 I J → ∀ (H : Heap) (locs : List Loc) (ls : Array Slot), lv_has ls 4 [(0, .ref (Θ (0))), (1, .int p1), (2, .long p2)] → va_P D clA (xw 34 Θ (eM Θ κ) I J) H → va_S (xA 34 Θ sz) s.heap H locs → W p l e (headSpec WS rm_Md_fault).room s m args below meth c H locs 0 0 (MQ below (xQv D clA 34 Θ (eM Θ κ) sz post) args s 0 0 (xA 34 Θ sz)) (F0 m 15 ls [.int s0, .ref (Θ (0))]) := by
    intro s0 I J h H locs ls hl hP hS
    unfold p_Md_fault_15 at h
    refine pfM_Md_7 C hΘ hP hS d_Md_fault_15 (fun H locs hP hS => ?_)
    obtain ⟨I4, eI4⟩ : ∃ y, y = xu I (0) 0 s0 := ⟨_, rfl⟩
    have hP : va_P D clA (xw 34 Θ (eM Θ κ) I4 J) H := by rw [eI4]; exact hP
    have h := h I4 eI4
    refine lv_aload_n hx hb d_Md_fault_18 rfl (lv_at hl 0 rfl) ?_
    refine gfM_Md_7 C hP d_Md_fault_19 ?_
    refine lv_if_ne hx hb d_Md_fault_22 (tgt := 36) rfl (fun hc7 => ?_) (fun hc7 => ?_)
    · have h := h.1 hc7
      exact x_vret hx hb hr hlocks hP hS h d_Md_fault_36
    · have h := h.2 hc7
      refine lv_aload_n hx hb d_Md_fault_25 rfl (lv_at hl 0 rfl) ?_
      refine gfM_Md_94 C hP d_Md_fault_26 ?_
      refine lv_iload_n hx hb d_Md_fault_29 rfl (lv_at hl 1 rfl) ?_
      refine lv_lload_n hx hb d_Md_fault_30 rfl (lv_at hl 2 rfl) ?_
      refine lv_ldc2 (v := (18014398509481983 : Int64)) hx hb hown (hts _ k_942) d_Md_fault_31 ?_
      refine lv_land hx hb d_Md_fault_34 ?_
      obtain ⟨j5, ej5, h_j5, h⟩ := h
      refine x_last hx hb hK hΘ hP hS (25) 1 (Nat.le_of_ble_eq_true rfl) eM_faults rfl ej5 h_j5 (by decide) d_Md_fault_35 (fun H locs hP hS => ?_)
      obtain ⟨J6, eJ6⟩ : ∃ y, y = xv J (25) j5 (p2 &&& (18014398509481983 : Int64)) := ⟨_, rfl⟩
      have hP : va_P D clA (xw 34 Θ (eM Θ κ) I4 J6) H := by rw [eJ6]; exact hP
      have h := h J6 eJ6
      exact x_vret hx hb hr hlocks hP hS h d_Md_fault_36
  have hE := lg_entry_eq m [.ref (Θ (0)), .int p1, .long p2] 4
  rw [← hargs] at hE
  rw [hE]
  have hl := lv_entry [.ref (Θ (0)), .int p1, .long p2] (n := 4) (Nat.le_of_ble_eq_true rfl)
  generalize (lg_sl [.ref (Θ (0)), .int p1, .long p2] ++ List.replicate (4 - (lg_sl [.ref (Θ (0)), .int p1, .long p2]).length) Slot.unset).toArray = ls at hl ⊢
  have hl : lv_has ls 4 [(0, .ref (Θ (0))), (1, .int p1), (2, .long p2)] := hl
  unfold p_Md_fault at h
  refine lv_aload_n hx hb d_Md_fault_0 rfl (lv_at hl 0 rfl) ?_
  refine lv_iload_n hx hb d_Md_fault_1 rfl (lv_at hl 1 rfl) ?_
  refine lv_bipush (v := (11 : Int32)) hx hb d_Md_fault_2 (by decide) ?_
  refine x_gi (x_S C hP hS (c_Md_in l D κ hΘ sz p1 (11 : Int32) I J _ h) q_Md_in k_887 k_886 rfl rfl ⟨Nat.le_of_ble_eq_true rfl, Nat.le_of_ble_eq_true rfl⟩ rfl hl.1 rfl (Nat.le_of_ble_eq_true rfl) d_Md_fault_4) hS (fun r3 I1 J2 h H locs hP hS => ?_)
  refine lv_if_eq hx hb d_Md_fault_7 (tgt := 14) rfl (fun hc8 => ?_) (fun hc8 => ?_)
  · have h := h.1 hc8
    refine lv_iconst (v := (1 : Int32)) hx hb d_Md_fault_14 (by decide) ?_
    exact tJ15 _ _ _ h _ _ _ (lv_sub hl [0, 1, 2] rfl) hP hS
  · have h := h.2 hc8
    refine lv_iconst (v := (0 : Int32)) hx hb d_Md_fault_10 (by decide) ?_
    refine lv_goto hx hb d_Md_fault_11 (tgt := 15) rfl ?_
    exact tJ15 _ _ _ h _ _ _ (lv_sub hl [0, 1, 2] rfl) hP hS
set_option maxHeartbeats 4000000 in
set_option maxRecDepth 100000 in
theorem c_Md_tick (l : Launch) (D : va_G) (κ : Nat → ClassId) {Θ : Nat → Nat} (hΘ : xJ 34 Θ) (sz : Nat) (p1 : Int32) (I : SI) (J : SJ) (post : Int32 → SI → SJ → Prop) (h : p_Md_tick p1 post I J) : Met l y_Md_tick WS rm_Md_tick (va_Pc [.ref (Θ (0)), .int p1] (xPR D clA (tysA κ) 34 Θ (eM Θ κ) sz I J)) (xQi D clA 34 Θ (eM Θ κ) sz post) 0 0 (xA 34 Θ sz) := by
  refine xMet (cc := b_Md_tick) (maxL := 3) (ret := (some .int)) (by decide) q_Md_tick.1 ?_
  intro p e s m args below meth c s₁ B hml hv
  obtain ⟨hargs, hsz, hP, hK, hN, hG⟩ := hv
  have hx := B.exec
  have hb := B.bytes
  have hr := B.returns
  have hlocks := B.notSynchronized
  have hts := atoms_spec (ws := WS) B.pre
  have hown : s.vm.findClass R_Md = some m.cls := findClass_of_methodNamed B.named
  have C : xC p m c b_Md_tick 3 s args R_Md D clA (tysA κ) 34 Θ sz := ⟨⟨hx, hb, hml, hown, hts⟩, hK, hN, hG, hsz⟩
  have hS : va_S (xA 34 Θ sz) s.heap s.heap [] := va_S.rf
  have tL42 : ∀ (n : Nat) (v2 : Int32) (I : SI) (J : SJ), p_Md_tick_L42 p1 post n v2 I J → ∀ (H : Heap) (locs : List Loc) (ls : Array Slot), lv_has ls 3 [(0, .ref (Θ (0))), (1, .int p1), (2, .int v2)] → va_P D clA (xw 34 Θ (eM Θ κ) I J) H → va_S (xA 34 Θ sz) s.heap H locs → W p l e (headSpec WS rm_Md_tick).room s m args below meth c H locs 0 0 (MQ below (xQi D clA 34 Θ (eM Θ κ) sz post) args s 0 0 (xA 34 Θ sz)) (F0 m 42 ls []) := by
    intro n
    induction n with
    | zero =>
      intro v2 I J h H locs ls hl hP hS
      exact h.elim
    | succ n ih =>
      intro v2 I J h H locs ls hl hP hS
      unfold p_Md_tick_L42 at h
      refine lv_iload_n hx hb d_Md_tick_42 rfl (lv_at hl 2 rfl) ?_
      refine lv_iload_n hx hb d_Md_tick_43 rfl (lv_at hl 1 rfl) ?_
      refine lv_icmp_ge hx hb d_Md_tick_44 (tgt := 57) rfl (fun hc6 => ?_) (fun hc6 => ?_)
      · have h := h.1 hc6
        refine lv_aload_n hx hb d_Md_tick_57 rfl (lv_at hl 0 rfl) ?_
        refine gfM_Md_122 C hP d_Md_tick_58 ?_
        exact x_iret hx hb hr hlocks hP hS h d_Md_tick_61
      · have h := h.2 hc6
        refine lv_aload_n hx hb d_Md_tick_47 rfl (lv_at hl 0 rfl) ?_
        refine x_gv (x_V C hP hS (Nat.le_of_ble_eq_true rfl) (eM_Md _ _) rfl (c_Md_slot l D κ hΘ sz I J _ h) q_Md_slot k_950 sel_Md_slot k_948 rfl rfl ⟨Nat.le_of_ble_eq_true rfl, Nat.le_of_ble_eq_true rfl⟩ rfl hl.1 rfl (Nat.le_of_ble_eq_true rfl) d_Md_tick_48) hS (fun I3 J4 h H locs hP hS => ?_)
        obtain ⟨x5, ex5⟩ : ∃ y : Int32, y = v2 + (1 : Int32) := ⟨_, rfl⟩
        have h := h x5 ex5
        refine lv_iinc (k := 2) (v := x5) hx hb d_Md_tick_51 hl rfl (by rw [ex5]; rfl) (Nat.le_of_ble_eq_true rfl) (lv' := [(2, .int x5), (0, .ref (Θ (0))), (1, .int p1)]) rfl (fun ls hl => ?_)
        refine lv_goto hx hb d_Md_tick_54 (tgt := 42) rfl ?_
        exact ih _ _ _ h _ _ _ (lv_sub hl [1, 2, 0] rfl) hP hS
  have tJ28 : ∀ (s0 : Int32) (I : SI) (J : SJ), p_Md_tick_28 p1 post s0 I J → ∀ (H : Heap) (locs : List Loc) (ls : Array Slot), lv_has ls 3 [(0, .ref (Θ (0))), (1, .int p1)] → va_P D clA (xw 34 Θ (eM Θ κ) I J) H → va_S (xA 34 Θ sz) s.heap H locs → W p l e (headSpec WS rm_Md_tick).room s m args below meth c H locs 0 0 (MQ below (xQi D clA 34 Θ (eM Θ κ) sz post) args s 0 0 (xA 34 Θ sz)) (F0 m 28 ls [.int s0, .ref (Θ (0))]) := by
    intro s0 I J h H locs ls hl hP hS
    unfold p_Md_tick_28 at h
    refine pfM_Md_7 C hΘ hP hS d_Md_tick_28 (fun H locs hP hS => ?_)
    obtain ⟨I1, eI1⟩ : ∃ y, y = xu I (0) 0 s0 := ⟨_, rfl⟩
    have hP : va_P D clA (xw 34 Θ (eM Θ κ) I1 J) H := by rw [eI1]; exact hP
    have h := h I1 eI1
    refine lv_aload_n hx hb d_Md_tick_31 rfl (lv_at hl 0 rfl) ?_
    refine gfM_Md_7 C hP d_Md_tick_32 ?_
    refine lv_if_eq hx hb d_Md_tick_35 (tgt := 40) rfl (fun hc8 => ?_) (fun hc8 => ?_)
    · have h := h.1 hc8
      refine lv_iconst (v := (0 : Int32)) hx hb d_Md_tick_40 (by decide) ?_
      refine lv_topi (fun x2 ex2 => ?_)
      have h := h x2 ex2
      refine lv_istore_n hx hb d_Md_tick_41 rfl hl (Nat.le_of_ble_eq_true rfl) (lv' := [(2, .int x2), (0, .ref (Θ (0))), (1, .int p1)]) rfl (fun ls hl => ?_)
      obtain ⟨n7, h⟩ := h
      refine tL42 n7 _ _ _ h _ _ _ (lv_sub hl [1, 2, 0] rfl) hP hS
    · have h := h.2 hc8
      refine lv_iconst (v := (0 : Int32)) hx hb d_Md_tick_38 (by decide) ?_
      exact x_iret hx hb hr hlocks hP hS h d_Md_tick_39
  have tJ23 : ∀ (I : SI) (J : SJ), p_Md_tick_23 p1 post I J → ∀ (H : Heap) (locs : List Loc) (ls : Array Slot), lv_has ls 3 [(0, .ref (Θ (0))), (1, .int p1)] → va_P D clA (xw 34 Θ (eM Θ κ) I J) H → va_S (xA 34 Θ sz) s.heap H locs → W p l e (headSpec WS rm_Md_tick).room s m args below meth c H locs 0 0 (MQ below (xQi D clA 34 Θ (eM Θ κ) sz post) args s 0 0 (xA 34 Θ sz)) (F0 m 23 ls [.ref (Θ (0))]) := by
    intro I J h H locs ls hl hP hS
    unfold p_Md_tick_23 at h
    refine lv_iconst (v := (1 : Int32)) hx hb d_Md_tick_23 (by decide) ?_
    refine lv_goto hx hb d_Md_tick_24 (tgt := 28) rfl ?_
    exact tJ28 _ _ _ h _ _ _ (lv_sub hl [0, 1] rfl) hP hS
  have hE := lg_entry_eq m [.ref (Θ (0)), .int p1] 3
  rw [← hargs] at hE
  rw [hE]
  have hl := lv_entry [.ref (Θ (0)), .int p1] (n := 3) (Nat.le_of_ble_eq_true rfl)
  generalize (lg_sl [.ref (Θ (0)), .int p1] ++ List.replicate (3 - (lg_sl [.ref (Θ (0)), .int p1]).length) Slot.unset).toArray = ls at hl ⊢
  have hl : lv_has ls 3 [(0, .ref (Θ (0))), (1, .int p1)] := hl
  unfold p_Md_tick at h
  refine lv_aload_n hx hb d_Md_tick_0 rfl (lv_at hl 0 rfl) ?_
  refine lv_iload_n hx hb d_Md_tick_1 rfl (lv_at hl 1 rfl) ?_
  refine lv_if_lt hx hb d_Md_tick_2 (tgt := 23) rfl (fun hc11 => ?_) (fun hc11 => ?_)
  · have h := h.1 hc11
    exact tJ23 _ _ h _ _ _ (lv_sub hl [0, 1] rfl) hP hS
  · have h := h.2 hc11
    refine lv_iload_n hx hb d_Md_tick_5 rfl (lv_at hl 1 rfl) ?_
    refine lv_sipush (v := (200 : Int32)) hx hb d_Md_tick_6 (by decide) ?_
    refine lv_icmp_gt hx hb d_Md_tick_9 (tgt := 23) rfl (fun hc10 => ?_) (fun hc10 => ?_)
    · have h := h.1 hc10
      exact tJ23 _ _ h _ _ _ (lv_sub hl [0, 1] rfl) hP hS
    · have h := h.2 hc10
      refine lv_aload_n hx hb d_Md_tick_12 rfl (lv_at hl 0 rfl) ?_
      refine gfM_Md_122 C hP d_Md_tick_13 ?_
      refine lv_ldc (v := (1000000000 : Int32)) hx hb hown (hts _ k_947) d_Md_tick_16 ?_
      refine lv_iload_n hx hb d_Md_tick_18 rfl (lv_at hl 1 rfl) ?_
      refine lv_isub hx hb d_Md_tick_19 ?_
      refine lv_icmp_le hx hb d_Md_tick_20 (tgt := 27) rfl (fun hc9 => ?_) (fun hc9 => ?_)
      · have h := h.1 hc9
        refine lv_iconst (v := (0 : Int32)) hx hb d_Md_tick_27 (by decide) ?_
        exact tJ28 _ _ _ h _ _ _ (lv_sub hl [0, 1] rfl) hP hS
      · have h := h.2 hc9
        exact tJ23 _ _ h _ _ _ (lv_sub hl [0, 1] rfl) hP hS
set_option maxHeartbeats 4000000 in
set_option maxRecDepth 100000 in
theorem c_Md_mobile (l : Launch) (D : va_G) (κ : Nat → ClassId) {Θ : Nat → Nat} (hΘ : xJ 34 Θ) (sz : Nat) (p1 : Int32) (p2 : Int32) (I : SI) (J : SJ) (post : Int32 → SI → SJ → Prop) (h : p_Md_mobile p1 p2 post I J) : Met l y_Md_mobile WS rm_Md_mobile (va_Pc [.ref (Θ (0)), .int p1, .int p2] (xPR D clA (tysA κ) 34 Θ (eM Θ κ) sz I J)) (xQi D clA 34 Θ (eM Θ κ) sz post) 0 0 (xA 34 Θ sz) := by
  refine xMet (cc := b_Md_mobile) (maxL := 3) (ret := (some .int)) (by decide) q_Md_mobile.1 ?_
  intro p e s m args below meth c s₁ B hml hv
  obtain ⟨hargs, hsz, hP, hK, hN, hG⟩ := hv
  have hx := B.exec
  have hb := B.bytes
  have hr := B.returns
  have hlocks := B.notSynchronized
  have hts := atoms_spec (ws := WS) B.pre
  have hown : s.vm.findClass R_Md = some m.cls := findClass_of_methodNamed B.named
  have C : xC p m c b_Md_mobile 3 s args R_Md D clA (tysA κ) 34 Θ sz := ⟨⟨hx, hb, hml, hown, hts⟩, hK, hN, hG, hsz⟩
  have hS : va_S (xA 34 Θ sz) s.heap s.heap [] := va_S.rf
  have hE := lg_entry_eq m [.ref (Θ (0)), .int p1, .int p2] 3
  rw [← hargs] at hE
  rw [hE]
  have hl := lv_entry [.ref (Θ (0)), .int p1, .int p2] (n := 3) (Nat.le_of_ble_eq_true rfl)
  generalize (lg_sl [.ref (Θ (0)), .int p1, .int p2] ++ List.replicate (3 - (lg_sl [.ref (Θ (0)), .int p1, .int p2]).length) Slot.unset).toArray = ls at hl ⊢
  have hl : lv_has ls 3 [(0, .ref (Θ (0))), (1, .int p1), (2, .int p2)] := hl
  unfold p_Md_mobile at h
  refine lv_aload_n hx hb d_Md_mobile_0 rfl (lv_at hl 0 rfl) ?_
  refine lv_iconst (v := (0 : Int32)) hx hb d_Md_mobile_1 (by decide) ?_
  refine pfM_Md_7 C hΘ hP hS d_Md_mobile_2 (fun H locs hP hS => ?_)
  obtain ⟨I1, eI1⟩ : ∃ y, y = xu I (0) 0 (0 : Int32) := ⟨_, rfl⟩
  have hP : va_P D clA (xw 34 Θ (eM Θ κ) I1 J) H := by rw [eI1]; exact hP
  have h := h I1 eI1
  refine lv_iload_n hx hb d_Md_mobile_5 rfl (lv_at hl 1 rfl) ?_
  refine lv_bipush (v := (8 : Int32)) hx hb d_Md_mobile_6 (by decide) ?_
  refine x_gi (x_S C hP hS (c_Md_in l D κ hΘ sz p1 (8 : Int32) I1 J _ h) q_Md_in k_887 k_886 rfl rfl ⟨Nat.le_of_ble_eq_true rfl, Nat.le_of_ble_eq_true rfl⟩ rfl hl.1 rfl (Nat.le_of_ble_eq_true rfl) d_Md_mobile_8) hS (fun r4 I2 J3 h H locs hP hS => ?_)
  refine lv_if_ne hx hb d_Md_mobile_11 (tgt := 16) rfl (fun hc37 => ?_) (fun hc37 => ?_)
  · have h := h.1 hc37
    refine lv_iload_n hx hb d_Md_mobile_16 rfl (lv_at hl 2 rfl) ?_
    by_cases hc6 : p2 = (0 : Int32)
    · have h := h.1 hc6
      refine lv_tableIn hx hb d_Md_mobile_17 (off := 71) (tgt := 88) (by rw [hc6]; decide) (by rw [hc6]; decide) (by rw [hc6]; decide) rfl ?_
      refine lv_aload_n hx hb d_Md_mobile_88 rfl (lv_at hl 0 rfl) ?_
      refine gfM_Md_27 C hP d_Md_mobile_89 ?_
      refine lv_iload_n hx hb d_Md_mobile_92 rfl (lv_at hl 1 rfl) ?_
      obtain ⟨j5, ej5, h_j5, h⟩ := h
      refine x_iald hx hb hK hP (3) 0 (Nat.le_of_ble_eq_true rfl) eM_cellOf rfl ej5 h_j5 (by decide) d_Md_mobile_93 ?_
      exact x_iret hx hb hr hlocks hP hS h d_Md_mobile_94
    have h := h.2 hc6
    by_cases hc8 : p2 = (1 : Int32)
    · have h := h.1 hc8
      refine lv_tableIn hx hb d_Md_mobile_17 (off := 78) (tgt := 95) (by rw [hc8]; decide) (by rw [hc8]; decide) (by rw [hc8]; decide) rfl ?_
      refine lv_aload_n hx hb d_Md_mobile_95 rfl (lv_at hl 0 rfl) ?_
      refine gfM_Md_58 C hP d_Md_mobile_96 ?_
      refine lv_iload_n hx hb d_Md_mobile_99 rfl (lv_at hl 1 rfl) ?_
      obtain ⟨j7, ej7, h_j7, h⟩ := h
      refine x_iald hx hb hK hP (13) 0 (Nat.le_of_ble_eq_true rfl) eM_doing rfl ej7 h_j7 (by decide) d_Md_mobile_100 ?_
      exact x_iret hx hb hr hlocks hP hS h d_Md_mobile_101
    have h := h.2 hc8
    by_cases hc12 : p2 = (2 : Int32)
    · have h := h.1 hc12
      refine lv_tableIn hx hb d_Md_mobile_17 (off := 85) (tgt := 102) (by rw [hc12]; decide) (by rw [hc12]; decide) (by rw [hc12]; decide) rfl ?_
      refine lv_aload_n hx hb d_Md_mobile_102 rfl (lv_at hl 0 rfl) ?_
      refine gfM_Md_58 C hP d_Md_mobile_103 ?_
      refine lv_iload_n hx hb d_Md_mobile_106 rfl (lv_at hl 1 rfl) ?_
      obtain ⟨j9, ej9, h_j9, h⟩ := h
      refine x_iald hx hb hK hP (13) 0 (Nat.le_of_ble_eq_true rfl) eM_doing rfl ej9 h_j9 (by decide) d_Md_mobile_107 ?_
      refine lv_if_ne hx hb d_Md_mobile_108 (tgt := 115) rfl (fun hc11 => ?_) (fun hc11 => ?_)
      · have h := h.1 hc11
        refine lv_aload_n hx hb d_Md_mobile_115 rfl (lv_at hl 0 rfl) ?_
        refine gfM_Md_61 C hP d_Md_mobile_116 ?_
        refine lv_iload_n hx hb d_Md_mobile_119 rfl (lv_at hl 1 rfl) ?_
        obtain ⟨j10, ej10, h_j10, h⟩ := h
        refine x_iald hx hb hK hP (14) 0 (Nat.le_of_ble_eq_true rfl) eM_channel rfl ej10 h_j10 (by decide) d_Md_mobile_120 ?_
        exact x_iret hx hb hr hlocks hP hS h d_Md_mobile_121
      · have h := h.2 hc11
        refine lv_iconst (v := (-1 : Int32)) hx hb d_Md_mobile_111 (by decide) ?_
        refine lv_goto hx hb d_Md_mobile_112 (tgt := 121) rfl ?_
        exact x_iret hx hb hr hlocks hP hS h d_Md_mobile_121
    have h := h.2 hc12
    by_cases hc16 : p2 = (3 : Int32)
    · have h := h.1 hc16
      refine lv_tableIn hx hb d_Md_mobile_17 (off := 105) (tgt := 122) (by rw [hc16]; decide) (by rw [hc16]; decide) (by rw [hc16]; decide) rfl ?_
      refine lv_aload_n hx hb d_Md_mobile_122 rfl (lv_at hl 0 rfl) ?_
      refine gfM_Md_58 C hP d_Md_mobile_123 ?_
      refine lv_iload_n hx hb d_Md_mobile_126 rfl (lv_at hl 1 rfl) ?_
      obtain ⟨j13, ej13, h_j13, h⟩ := h
      refine x_iald hx hb hK hP (13) 0 (Nat.le_of_ble_eq_true rfl) eM_doing rfl ej13 h_j13 (by decide) d_Md_mobile_127 ?_
      refine lv_if_ne hx hb d_Md_mobile_128 (tgt := 135) rfl (fun hc15 => ?_) (fun hc15 => ?_)
      · have h := h.1 hc15
        refine lv_aload_n hx hb d_Md_mobile_135 rfl (lv_at hl 0 rfl) ?_
        refine gfM_Md_64 C hP d_Md_mobile_136 ?_
        refine lv_iload_n hx hb d_Md_mobile_139 rfl (lv_at hl 1 rfl) ?_
        obtain ⟨j14, ej14, h_j14, h⟩ := h
        refine x_iald hx hb hK hP (15) 0 (Nat.le_of_ble_eq_true rfl) eM_inCall rfl ej14 h_j14 (by decide) d_Md_mobile_140 ?_
        exact x_iret hx hb hr hlocks hP hS h d_Md_mobile_141
      · have h := h.2 hc15
        refine lv_iconst (v := (-1 : Int32)) hx hb d_Md_mobile_131 (by decide) ?_
        refine lv_goto hx hb d_Md_mobile_132 (tgt := 141) rfl ?_
        exact x_iret hx hb hr hlocks hP hS h d_Md_mobile_141
    have h := h.2 hc16
    by_cases hc18 : p2 = (4 : Int32)
    · have h := h.1 hc18
      refine lv_tableIn hx hb d_Md_mobile_17 (off := 125) (tgt := 142) (by rw [hc18]; decide) (by rw [hc18]; decide) (by rw [hc18]; decide) rfl ?_
      refine lv_aload_n hx hb d_Md_mobile_142 rfl (lv_at hl 0 rfl) ?_
      refine gfM_Md_67 C hP d_Md_mobile_143 ?_
      refine lv_iload_n hx hb d_Md_mobile_146 rfl (lv_at hl 1 rfl) ?_
      obtain ⟨j17, ej17, h_j17, h⟩ := h
      refine x_iald hx hb hK hP (16) 0 (Nat.le_of_ble_eq_true rfl) eM_presses rfl ej17 h_j17 (by decide) d_Md_mobile_147 ?_
      exact x_iret hx hb hr hlocks hP hS h d_Md_mobile_148
    have h := h.2 hc18
    by_cases hc20 : p2 = (5 : Int32)
    · have h := h.1 hc20
      refine lv_tableIn hx hb d_Md_mobile_17 (off := 132) (tgt := 149) (by rw [hc20]; decide) (by rw [hc20]; decide) (by rw [hc20]; decide) rfl ?_
      refine lv_aload_n hx hb d_Md_mobile_149 rfl (lv_at hl 0 rfl) ?_
      refine gfM_Md_39 C hP d_Md_mobile_150 ?_
      refine lv_iload_n hx hb d_Md_mobile_153 rfl (lv_at hl 1 rfl) ?_
      obtain ⟨j19, ej19, h_j19, h⟩ := h
      refine x_iald hx hb hK hP (7) 0 (Nat.le_of_ble_eq_true rfl) eM_kind rfl ej19 h_j19 (by decide) d_Md_mobile_154 ?_
      exact x_iret hx hb hr hlocks hP hS h d_Md_mobile_155
    have h := h.2 hc20
    by_cases hc22 : p2 = (6 : Int32)
    · have h := h.1 hc22
      refine lv_tableIn hx hb d_Md_mobile_17 (off := 139) (tgt := 156) (by rw [hc22]; decide) (by rw [hc22]; decide) (by rw [hc22]; decide) rfl ?_
      refine lv_aload_n hx hb d_Md_mobile_156 rfl (lv_at hl 0 rfl) ?_
      refine gfM_Md_48 C hP d_Md_mobile_157 ?_
      refine lv_iload_n hx hb d_Md_mobile_160 rfl (lv_at hl 1 rfl) ?_
      obtain ⟨j21, ej21, h_j21, h⟩ := h
      refine x_iald hx hb hK hP (10) 0 (Nat.le_of_ble_eq_true rfl) eM_tries rfl ej21 h_j21 (by decide) d_Md_mobile_161 ?_
      exact x_iret hx hb hr hlocks hP hS h d_Md_mobile_162
    have h := h.2 hc22
    by_cases hc24 : p2 = (7 : Int32)
    · have h := h.1 hc24
      refine lv_tableIn hx hb d_Md_mobile_17 (off := 146) (tgt := 163) (by rw [hc24]; decide) (by rw [hc24]; decide) (by rw [hc24]; decide) rfl ?_
      refine lv_aload_n hx hb d_Md_mobile_163 rfl (lv_at hl 0 rfl) ?_
      refine gfM_Md_51 C hP d_Md_mobile_164 ?_
      refine lv_iload_n hx hb d_Md_mobile_167 rfl (lv_at hl 1 rfl) ?_
      obtain ⟨j23, ej23, h_j23, h⟩ := h
      refine x_iald hx hb hK hP (11) 0 (Nat.le_of_ble_eq_true rfl) eM_wait rfl ej23 h_j23 (by decide) d_Md_mobile_168 ?_
      exact x_iret hx hb hr hlocks hP hS h d_Md_mobile_169
    have h := h.2 hc24
    by_cases hc26 : p2 = (8 : Int32)
    · have h := h.1 hc26
      refine lv_tableIn hx hb d_Md_mobile_17 (off := 153) (tgt := 170) (by rw [hc26]; decide) (by rw [hc26]; decide) (by rw [hc26]; decide) rfl ?_
      refine lv_aload_n hx hb d_Md_mobile_170 rfl (lv_at hl 0 rfl) ?_
      refine gfM_Md_79 C hP d_Md_mobile_171 ?_
      refine lv_iload_n hx hb d_Md_mobile_174 rfl (lv_at hl 1 rfl) ?_
      obtain ⟨j25, ej25, h_j25, h⟩ := h
      refine x_iald hx hb hK hP (20) 0 (Nat.le_of_ble_eq_true rfl) eM_heard rfl ej25 h_j25 (by decide) d_Md_mobile_175 ?_
      exact x_iret hx hb hr hlocks hP hS h d_Md_mobile_176
    have h := h.2 hc26
    by_cases hc28 : p2 = (9 : Int32)
    · have h := h.1 hc28
      refine lv_tableIn hx hb d_Md_mobile_17 (off := 160) (tgt := 177) (by rw [hc28]; decide) (by rw [hc28]; decide) (by rw [hc28]; decide) rfl ?_
      refine lv_aload_n hx hb d_Md_mobile_177 rfl (lv_at hl 0 rfl) ?_
      refine gfM_Md_82 C hP d_Md_mobile_178 ?_
      refine lv_iload_n hx hb d_Md_mobile_181 rfl (lv_at hl 1 rfl) ?_
      obtain ⟨j27, ej27, h_j27, h⟩ := h
      refine x_iald hx hb hK hP (21) 0 (Nat.le_of_ble_eq_true rfl) eM_heardLast rfl ej27 h_j27 (by decide) d_Md_mobile_182 ?_
      exact x_iret hx hb hr hlocks hP hS h d_Md_mobile_183
    have h := h.2 hc28
    by_cases hc30 : p2 = (10 : Int32)
    · have h := h.1 hc30
      refine lv_tableIn hx hb d_Md_mobile_17 (off := 167) (tgt := 184) (by rw [hc30]; decide) (by rw [hc30]; decide) (by rw [hc30]; decide) rfl ?_
      refine lv_aload_n hx hb d_Md_mobile_184 rfl (lv_at hl 0 rfl) ?_
      refine gfM_Md_85 C hP d_Md_mobile_185 ?_
      refine lv_iload_n hx hb d_Md_mobile_188 rfl (lv_at hl 1 rfl) ?_
      obtain ⟨j29, ej29, h_j29, h⟩ := h
      refine x_iald hx hb hK hP (22) 0 (Nat.le_of_ble_eq_true rfl) eM_got rfl ej29 h_j29 (by decide) d_Md_mobile_189 ?_
      exact x_iret hx hb hr hlocks hP hS h d_Md_mobile_190
    have h := h.2 hc30
    by_cases hc32 : p2 = (11 : Int32)
    · have h := h.1 hc32
      refine lv_tableIn hx hb d_Md_mobile_17 (off := 174) (tgt := 191) (by rw [hc32]; decide) (by rw [hc32]; decide) (by rw [hc32]; decide) rfl ?_
      refine lv_aload_n hx hb d_Md_mobile_191 rfl (lv_at hl 0 rfl) ?_
      refine gfM_Md_88 C hP d_Md_mobile_192 ?_
      refine lv_iload_n hx hb d_Md_mobile_195 rfl (lv_at hl 1 rfl) ?_
      obtain ⟨j31, ej31, h_j31, h⟩ := h
      refine x_iald hx hb hK hP (23) 0 (Nat.le_of_ble_eq_true rfl) eM_gotLast rfl ej31 h_j31 (by decide) d_Md_mobile_196 ?_
      exact x_iret hx hb hr hlocks hP hS h d_Md_mobile_197
    have h := h.2 hc32
    by_cases hc34 : p2 = (12 : Int32)
    · have h := h.1 hc34
      refine lv_tableIn hx hb d_Md_mobile_17 (off := 181) (tgt := 198) (by rw [hc34]; decide) (by rw [hc34]; decide) (by rw [hc34]; decide) rfl ?_
      refine lv_aload_n hx hb d_Md_mobile_198 rfl (lv_at hl 0 rfl) ?_
      refine gfM_Md_76 C hP d_Md_mobile_199 ?_
      refine lv_iload_n hx hb d_Md_mobile_202 rfl (lv_at hl 1 rfl) ?_
      obtain ⟨j33, ej33, h_j33, h⟩ := h
      refine x_iald hx hb hK hP (19) 0 (Nat.le_of_ble_eq_true rfl) eM_drawCount rfl ej33 h_j33 (by decide) d_Md_mobile_203 ?_
      exact x_iret hx hb hr hlocks hP hS h d_Md_mobile_204
    have h := h.2 hc34
    by_cases hc36 : p2 = (13 : Int32)
    · have h := h.1 hc36
      refine lv_tableIn hx hb d_Md_mobile_17 (off := 188) (tgt := 205) (by rw [hc36]; decide) (by rw [hc36]; decide) (by rw [hc36]; decide) rfl ?_
      refine lv_aload_n hx hb d_Md_mobile_205 rfl (lv_at hl 0 rfl) ?_
      refine gfM_Md_91 C hP d_Md_mobile_206 ?_
      refine lv_iload_n hx hb d_Md_mobile_209 rfl (lv_at hl 1 rfl) ?_
      obtain ⟨j35, ej35, h_j35, h⟩ := h
      refine x_iald hx hb hK hP (24) 0 (Nat.le_of_ble_eq_true rfl) eM_registered rfl ej35 h_j35 (by decide) d_Md_mobile_210 ?_
      exact x_iret hx hb hr hlocks hP hS h d_Md_mobile_211
    have h := h.2 hc36
    refine lv_tableOut hx hb d_Md_mobile_17 (tgt := 212) (by have hq : ∀ k : Int32, ¬ p2 = k → ¬ (p2).toInt = k.toInt := fun k hk e => hk (Int32.toInt_inj.mp e); have q0 := hq _ hc6; have q1 := hq _ hc8; have q2 := hq _ hc12; have q3 := hq _ hc16; have q4 := hq _ hc18; have q5 := hq _ hc20; have q6 := hq _ hc22; have q7 := hq _ hc24; have q8 := hq _ hc26; have q9 := hq _ hc28; have q10 := hq _ hc30; have q11 := hq _ hc32; have q12 := hq _ hc34; have q13 := hq _ hc36; rw [show ((0 : Int32)).toInt = 0 from rfl] at q0; rw [show ((1 : Int32)).toInt = 1 from rfl] at q1; rw [show ((2 : Int32)).toInt = 2 from rfl] at q2; rw [show ((3 : Int32)).toInt = 3 from rfl] at q3; rw [show ((4 : Int32)).toInt = 4 from rfl] at q4; rw [show ((5 : Int32)).toInt = 5 from rfl] at q5; rw [show ((6 : Int32)).toInt = 6 from rfl] at q6; rw [show ((7 : Int32)).toInt = 7 from rfl] at q7; rw [show ((8 : Int32)).toInt = 8 from rfl] at q8; rw [show ((9 : Int32)).toInt = 9 from rfl] at q9; rw [show ((10 : Int32)).toInt = 10 from rfl] at q10; rw [show ((11 : Int32)).toInt = 11 from rfl] at q11; rw [show ((12 : Int32)).toInt = 12 from rfl] at q12; rw [show ((13 : Int32)).toInt = 13 from rfl] at q13; omega) rfl ?_
    refine lv_iconst (v := (-1 : Int32)) hx hb d_Md_mobile_212 (by decide) ?_
    exact x_iret hx hb hr hlocks hP hS h d_Md_mobile_213
  · have h := h.2 hc37
    refine lv_iconst (v := (-1 : Int32)) hx hb d_Md_mobile_14 (by decide) ?_
    exact x_iret hx hb hr hlocks hP hS h d_Md_mobile_15
set_option maxHeartbeats 4000000 in
set_option maxRecDepth 100000 in
theorem c_Md_call (l : Launch) (D : va_G) (κ : Nat → ClassId) {Θ : Nat → Nat} (hΘ : xJ 34 Θ) (sz : Nat) (p1 : Int32) (p2 : Int32) (I : SI) (J : SJ) (post : Int32 → SI → SJ → Prop) (h : p_Md_call p1 p2 post I J) : Met l y_Md_call WS rm_Md_call (va_Pc [.ref (Θ (0)), .int p1, .int p2] (xPR D clA (tysA κ) 34 Θ (eM Θ κ) sz I J)) (xQi D clA 34 Θ (eM Θ κ) sz post) 0 0 (xA 34 Θ sz) := by
  refine xMet (cc := b_Md_call) (maxL := 3) (ret := (some .int)) (by decide) q_Md_call.1 ?_
  intro p e s m args below meth c s₁ B hml hv
  obtain ⟨hargs, hsz, hP, hK, hN, hG⟩ := hv
  have hx := B.exec
  have hb := B.bytes
  have hr := B.returns
  have hlocks := B.notSynchronized
  have hts := atoms_spec (ws := WS) B.pre
  have hown : s.vm.findClass R_Md = some m.cls := findClass_of_methodNamed B.named
  have C : xC p m c b_Md_call 3 s args R_Md D clA (tysA κ) 34 Θ sz := ⟨⟨hx, hb, hml, hown, hts⟩, hK, hN, hG, hsz⟩
  have hS : va_S (xA 34 Θ sz) s.heap s.heap [] := va_S.rf
  have hE := lg_entry_eq m [.ref (Θ (0)), .int p1, .int p2] 3
  rw [← hargs] at hE
  rw [hE]
  have hl := lv_entry [.ref (Θ (0)), .int p1, .int p2] (n := 3) (Nat.le_of_ble_eq_true rfl)
  generalize (lg_sl [.ref (Θ (0)), .int p1, .int p2] ++ List.replicate (3 - (lg_sl [.ref (Θ (0)), .int p1, .int p2]).length) Slot.unset).toArray = ls at hl ⊢
  have hl : lv_has ls 3 [(0, .ref (Θ (0))), (1, .int p1), (2, .int p2)] := hl
  unfold p_Md_call at h
  refine lv_aload_n hx hb d_Md_call_0 rfl (lv_at hl 0 rfl) ?_
  refine lv_iconst (v := (0 : Int32)) hx hb d_Md_call_1 (by decide) ?_
  refine pfM_Md_7 C hΘ hP hS d_Md_call_2 (fun H locs hP hS => ?_)
  obtain ⟨I1, eI1⟩ : ∃ y, y = xu I (0) 0 (0 : Int32) := ⟨_, rfl⟩
  have hP : va_P D clA (xw 34 Θ (eM Θ κ) I1 J) H := by rw [eI1]; exact hP
  have h := h I1 eI1
  refine lv_iload_n hx hb d_Md_call_5 rfl (lv_at hl 1 rfl) ?_
  refine lv_iconst (v := (4 : Int32)) hx hb d_Md_call_6 (by decide) ?_
  refine x_gi (x_S C hP hS (c_Md_in l D κ hΘ sz p1 (4 : Int32) I1 J _ h) q_Md_in k_887 k_886 rfl rfl ⟨Nat.le_of_ble_eq_true rfl, Nat.le_of_ble_eq_true rfl⟩ rfl hl.1 rfl (Nat.le_of_ble_eq_true rfl) d_Md_call_7) hS (fun r4 I2 J3 h H locs hP hS => ?_)
  refine lv_if_eq hx hb d_Md_call_10 (tgt := 21) rfl (fun hc18 => ?_) (fun hc18 => ?_)
  · have h := h.1 hc18
    refine lv_iconst (v := (-1 : Int32)) hx hb d_Md_call_21 (by decide) ?_
    exact x_iret hx hb hr hlocks hP hS h d_Md_call_22
  · have h := h.2 hc18
    refine lv_iload_n hx hb d_Md_call_13 rfl (lv_at hl 2 rfl) ?_
    refine lv_iconst (v := (4 : Int32)) hx hb d_Md_call_14 (by decide) ?_
    refine x_gi (x_S C hP hS (c_Md_in l D κ hΘ sz p2 (4 : Int32) I2 J3 _ h) q_Md_in k_887 k_886 rfl rfl ⟨Nat.le_of_ble_eq_true rfl, Nat.le_of_ble_eq_true rfl⟩ rfl hl.1 rfl (Nat.le_of_ble_eq_true rfl) d_Md_call_15) hS (fun r7 I5 J6 h H locs hP hS => ?_)
    refine lv_if_ne hx hb d_Md_call_18 (tgt := 23) rfl (fun hc17 => ?_) (fun hc17 => ?_)
    · have h := h.1 hc17
      refine lv_iload_n hx hb d_Md_call_23 rfl (lv_at hl 2 rfl) ?_
      refine lv_iconst (v := (3 : Int32)) hx hb d_Md_call_24 (by decide) ?_
      refine lv_icmp_ne hx hb d_Md_call_25 (tgt := 35) rfl (fun hc16 => ?_) (fun hc16 => ?_)
      · have h := h.1 hc16
        refine lv_aload_n hx hb d_Md_call_35 rfl (lv_at hl 0 rfl) ?_
        refine gfM_Md_101 C hP d_Md_call_36 ?_
        refine lv_iload_n hx hb d_Md_call_39 rfl (lv_at hl 1 rfl) ?_
        obtain ⟨j8, ej8, h_j8, h⟩ := h
        refine x_iald hx hb hK hP (27) 0 (Nat.le_of_ble_eq_true rfl) eM_callChannel rfl ej8 h_j8 (by decide) d_Md_call_40 ?_
        refine lv_if_ne hx hb d_Md_call_41 (tgt := 46) rfl (fun hc14 => ?_) (fun hc14 => ?_)
        · have h := h.1 hc14
          refine lv_iload_n hx hb d_Md_call_46 rfl (lv_at hl 2 rfl) ?_
          refine lv_if_ne hx hb d_Md_call_47 (tgt := 59) rfl (fun hc13 => ?_) (fun hc13 => ?_)
          · have h := h.1 hc13
            refine lv_iload_n hx hb d_Md_call_59 rfl (lv_at hl 2 rfl) ?_
            refine lv_iconst (v := (1 : Int32)) hx hb d_Md_call_60 (by decide) ?_
            refine lv_icmp_ne hx hb d_Md_call_61 (tgt := 73) rfl (fun hc11 => ?_) (fun hc11 => ?_)
            · have h := h.1 hc11
              refine lv_aload_n hx hb d_Md_call_73 rfl (lv_at hl 0 rfl) ?_
              refine gfM_Md_107 C hP d_Md_call_74 ?_
              refine lv_iload_n hx hb d_Md_call_77 rfl (lv_at hl 1 rfl) ?_
              obtain ⟨j9, ej9, h_j9, h⟩ := h
              refine x_iald hx hb hK hP (29) 0 (Nat.le_of_ble_eq_true rfl) eM_since rfl ej9 h_j9 (by decide) d_Md_call_78 ?_
              exact x_iret hx hb hr hlocks hP hS h d_Md_call_79
            · have h := h.2 hc11
              refine lv_aload_n hx hb d_Md_call_64 rfl (lv_at hl 0 rfl) ?_
              refine gfM_Md_104 C hP d_Md_call_65 ?_
              refine lv_iload_n hx hb d_Md_call_68 rfl (lv_at hl 1 rfl) ?_
              obtain ⟨j10, ej10, h_j10, h⟩ := h
              refine x_iald hx hb hK hP (28) 0 (Nat.le_of_ble_eq_true rfl) eM_holder rfl ej10 h_j10 (by decide) d_Md_call_69 ?_
              refine lv_goto hx hb d_Md_call_70 (tgt := 79) rfl ?_
              exact x_iret hx hb hr hlocks hP hS h d_Md_call_79
          · have h := h.2 hc13
            refine lv_aload_n hx hb d_Md_call_50 rfl (lv_at hl 0 rfl) ?_
            refine gfM_Md_101 C hP d_Md_call_51 ?_
            refine lv_iload_n hx hb d_Md_call_54 rfl (lv_at hl 1 rfl) ?_
            obtain ⟨j12, ej12, h_j12, h⟩ := h
            refine x_iald hx hb hK hP (27) 0 (Nat.le_of_ble_eq_true rfl) eM_callChannel rfl ej12 h_j12 (by decide) d_Md_call_55 ?_
            refine lv_goto hx hb d_Md_call_56 (tgt := 79) rfl ?_
            exact x_iret hx hb hr hlocks hP hS h d_Md_call_79
        · have h := h.2 hc14
          refine lv_iconst (v := (-1 : Int32)) hx hb d_Md_call_44 (by decide) ?_
          exact x_iret hx hb hr hlocks hP hS h d_Md_call_45
      · have h := h.2 hc16
        refine lv_aload_n hx hb d_Md_call_28 rfl (lv_at hl 0 rfl) ?_
        refine gfM_Md_113 C hP d_Md_call_29 ?_
        refine lv_iload_n hx hb d_Md_call_32 rfl (lv_at hl 1 rfl) ?_
        obtain ⟨j15, ej15, h_j15, h⟩ := h
        refine x_iald hx hb hK hP (31) 0 (Nat.le_of_ble_eq_true rfl) eM_rowCount rfl ej15 h_j15 (by decide) d_Md_call_33 ?_
        exact x_iret hx hb hr hlocks hP hS h d_Md_call_34
    · have h := h.2 hc17
      refine lv_iconst (v := (-1 : Int32)) hx hb d_Md_call_21 (by decide) ?_
      exact x_iret hx hb hr hlocks hP hS h d_Md_call_22
set_option maxHeartbeats 4000000 in
set_option maxRecDepth 100000 in
theorem c_Md_waiting (l : Launch) (D : va_G) (κ : Nat → ClassId) {Θ : Nat → Nat} (hΘ : xJ 34 Θ) (sz : Nat) (p1 : Int32) (p2 : Int32) (I : SI) (J : SJ) (post : Int32 → SI → SJ → Prop) (h : p_Md_waiting p1 p2 post I J) : Met l y_Md_waiting WS rm_Md_waiting (va_Pc [.ref (Θ (0)), .int p1, .int p2] (xPR D clA (tysA κ) 34 Θ (eM Θ κ) sz I J)) (xQi D clA 34 Θ (eM Θ κ) sz post) 0 0 (xA 34 Θ sz) := by
  refine xMet (cc := b_Md_waiting) (maxL := 3) (ret := (some .int)) (by decide) q_Md_waiting.1 ?_
  intro p e s m args below meth c s₁ B hml hv
  obtain ⟨hargs, hsz, hP, hK, hN, hG⟩ := hv
  have hx := B.exec
  have hb := B.bytes
  have hr := B.returns
  have hlocks := B.notSynchronized
  have hts := atoms_spec (ws := WS) B.pre
  have hown : s.vm.findClass R_Md = some m.cls := findClass_of_methodNamed B.named
  have C : xC p m c b_Md_waiting 3 s args R_Md D clA (tysA κ) 34 Θ sz := ⟨⟨hx, hb, hml, hown, hts⟩, hK, hN, hG, hsz⟩
  have hS : va_S (xA 34 Θ sz) s.heap s.heap [] := va_S.rf
  have tJ42 : ∀ (I : SI) (J : SJ), p_Md_waiting_42 p1 p2 post I J → ∀ (H : Heap) (locs : List Loc) (ls : Array Slot), lv_has ls 3 [] → va_P D clA (xw 34 Θ (eM Θ κ) I J) H → va_S (xA 34 Θ sz) s.heap H locs → W p l e (headSpec WS rm_Md_waiting).room s m args below meth c H locs 0 0 (MQ below (xQi D clA 34 Θ (eM Θ κ) sz post) args s 0 0 (xA 34 Θ sz)) (F0 m 42 ls []) := by
    intro I J h H locs ls hl hP hS
    unfold p_Md_waiting_42 at h
    refine lv_iconst (v := (-1 : Int32)) hx hb d_Md_waiting_42 (by decide) ?_
    exact x_iret hx hb hr hlocks hP hS h d_Md_waiting_43
  have hE := lg_entry_eq m [.ref (Θ (0)), .int p1, .int p2] 3
  rw [← hargs] at hE
  rw [hE]
  have hl := lv_entry [.ref (Θ (0)), .int p1, .int p2] (n := 3) (Nat.le_of_ble_eq_true rfl)
  generalize (lg_sl [.ref (Θ (0)), .int p1, .int p2] ++ List.replicate (3 - (lg_sl [.ref (Θ (0)), .int p1, .int p2]).length) Slot.unset).toArray = ls at hl ⊢
  have hl : lv_has ls 3 [(0, .ref (Θ (0))), (1, .int p1), (2, .int p2)] := hl
  unfold p_Md_waiting at h
  refine lv_aload_n hx hb d_Md_waiting_0 rfl (lv_at hl 0 rfl) ?_
  refine lv_iconst (v := (0 : Int32)) hx hb d_Md_waiting_1 (by decide) ?_
  refine pfM_Md_7 C hΘ hP hS d_Md_waiting_2 (fun H locs hP hS => ?_)
  obtain ⟨I1, eI1⟩ : ∃ y, y = xu I (0) 0 (0 : Int32) := ⟨_, rfl⟩
  have hP : va_P D clA (xw 34 Θ (eM Θ κ) I1 J) H := by rw [eI1]; exact hP
  have h := h I1 eI1
  refine lv_iload_n hx hb d_Md_waiting_5 rfl (lv_at hl 1 rfl) ?_
  refine lv_iconst (v := (4 : Int32)) hx hb d_Md_waiting_6 (by decide) ?_
  refine x_gi (x_S C hP hS (c_Md_in l D κ hΘ sz p1 (4 : Int32) I1 J _ h) q_Md_in k_887 k_886 rfl rfl ⟨Nat.le_of_ble_eq_true rfl, Nat.le_of_ble_eq_true rfl⟩ rfl hl.1 rfl (Nat.le_of_ble_eq_true rfl) d_Md_waiting_7) hS (fun r4 I2 J3 h H locs hP hS => ?_)
  refine lv_if_eq hx hb d_Md_waiting_10 (tgt := 42) rfl (fun hc11 => ?_) (fun hc11 => ?_)
  · have h := h.1 hc11
    exact tJ42 _ _ h _ _ _ (lv_sub hl [] rfl) hP hS
  · have h := h.2 hc11
    refine lv_iload_n hx hb d_Md_waiting_13 rfl (lv_at hl 2 rfl) ?_
    refine lv_aload_n hx hb d_Md_waiting_14 rfl (lv_at hl 0 rfl) ?_
    refine gfM_Md_113 C hP d_Md_waiting_15 ?_
    refine lv_iload_n hx hb d_Md_waiting_18 rfl (lv_at hl 1 rfl) ?_
    refine lv_iconst (v := (3 : Int32)) hx hb d_Md_waiting_19 (by decide) ?_
    refine lv_iand hx hb d_Md_waiting_20 ?_
    obtain ⟨j5, ej5, h_j5, h⟩ := h
    refine x_iald hx hb hK hP (31) 0 (Nat.le_of_ble_eq_true rfl) eM_rowCount rfl ej5 h_j5 (by decide) d_Md_waiting_21 ?_
    refine x_gi (x_S C hP hS (c_Md_in l D κ hΘ sz p2 (I2 (31) j5) I2 J3 _ h) q_Md_in k_887 k_886 rfl rfl ⟨Nat.le_of_ble_eq_true rfl, Nat.le_of_ble_eq_true rfl⟩ rfl hl.1 rfl (Nat.le_of_ble_eq_true rfl) d_Md_waiting_22) hS (fun r8 I6 J7 h H locs hP hS => ?_)
    refine lv_if_eq hx hb d_Md_waiting_25 (tgt := 42) rfl (fun hc10 => ?_) (fun hc10 => ?_)
    · have h := h.1 hc10
      exact tJ42 _ _ h _ _ _ (lv_sub hl [] rfl) hP hS
    · have h := h.2 hc10
      refine lv_aload_n hx hb d_Md_waiting_28 rfl (lv_at hl 0 rfl) ?_
      refine gfM_Md_110 C hP d_Md_waiting_29 ?_
      refine lv_bipush (v := (6 : Int32)) hx hb d_Md_waiting_32 (by decide) ?_
      refine lv_iload_n hx hb d_Md_waiting_34 rfl (lv_at hl 1 rfl) ?_
      refine lv_imul hx hb d_Md_waiting_35 ?_
      refine lv_iload_n hx hb d_Md_waiting_36 rfl (lv_at hl 2 rfl) ?_
      refine lv_iadd hx hb d_Md_waiting_37 ?_
      obtain ⟨j9, ej9, h_j9, h⟩ := h
      refine x_iald hx hb hK hP (30) 0 (Nat.le_of_ble_eq_true rfl) eM_rows rfl ej9 h_j9 (by decide) d_Md_waiting_38 ?_
      refine lv_goto hx hb d_Md_waiting_39 (tgt := 43) rfl ?_
      exact x_iret hx hb hr hlocks hP hS h d_Md_waiting_43
set_option maxHeartbeats 4000000 in
set_option maxRecDepth 100000 in
theorem c_Md_saying (l : Launch) (D : va_G) (κ : Nat → ClassId) {Θ : Nat → Nat} (hΘ : xJ 34 Θ) (sz : Nat) (p1 : Int32) (p2 : Int32) (I : SI) (J : SJ) (post : Int32 → SI → SJ → Prop) (h : p_Md_saying p1 p2 post I J) : Met l y_Md_saying WS rm_Md_saying (va_Pc [.ref (Θ (0)), .int p1, .int p2] (xPR D clA (tysA κ) 34 Θ (eM Θ κ) sz I J)) (xQi D clA 34 Θ (eM Θ κ) sz post) 0 0 (xA 34 Θ sz) := by
  refine xMet (cc := b_Md_saying) (maxL := 3) (ret := (some .int)) (by decide) q_Md_saying.1 ?_
  intro p e s m args below meth c s₁ B hml hv
  obtain ⟨hargs, hsz, hP, hK, hN, hG⟩ := hv
  have hx := B.exec
  have hb := B.bytes
  have hr := B.returns
  have hlocks := B.notSynchronized
  have hts := atoms_spec (ws := WS) B.pre
  have hown : s.vm.findClass R_Md = some m.cls := findClass_of_methodNamed B.named
  have C : xC p m c b_Md_saying 3 s args R_Md D clA (tysA κ) 34 Θ sz := ⟨⟨hx, hb, hml, hown, hts⟩, hK, hN, hG, hsz⟩
  have hS : va_S (xA 34 Θ sz) s.heap s.heap [] := va_S.rf
  have hE := lg_entry_eq m [.ref (Θ (0)), .int p1, .int p2] 3
  rw [← hargs] at hE
  rw [hE]
  have hl := lv_entry [.ref (Θ (0)), .int p1, .int p2] (n := 3) (Nat.le_of_ble_eq_true rfl)
  generalize (lg_sl [.ref (Θ (0)), .int p1, .int p2] ++ List.replicate (3 - (lg_sl [.ref (Θ (0)), .int p1, .int p2]).length) Slot.unset).toArray = ls at hl ⊢
  have hl : lv_has ls 3 [(0, .ref (Θ (0))), (1, .int p1), (2, .int p2)] := hl
  unfold p_Md_saying at h
  refine lv_aload_n hx hb d_Md_saying_0 rfl (lv_at hl 0 rfl) ?_
  refine lv_iconst (v := (0 : Int32)) hx hb d_Md_saying_1 (by decide) ?_
  refine pfM_Md_7 C hΘ hP hS d_Md_saying_2 (fun H locs hP hS => ?_)
  obtain ⟨I1, eI1⟩ : ∃ y, y = xu I (0) 0 (0 : Int32) := ⟨_, rfl⟩
  have hP : va_P D clA (xw 34 Θ (eM Θ κ) I1 J) H := by rw [eI1]; exact hP
  have h := h I1 eI1
  refine lv_iload_n hx hb d_Md_saying_5 rfl (lv_at hl 1 rfl) ?_
  refine lv_iconst (v := (3 : Int32)) hx hb d_Md_saying_6 (by decide) ?_
  refine x_gi (x_S C hP hS (c_Md_in l D κ hΘ sz p1 (3 : Int32) I1 J _ h) q_Md_in k_887 k_886 rfl rfl ⟨Nat.le_of_ble_eq_true rfl, Nat.le_of_ble_eq_true rfl⟩ rfl hl.1 rfl (Nat.le_of_ble_eq_true rfl) d_Md_saying_7) hS (fun r4 I2 J3 h H locs hP hS => ?_)
  refine lv_if_eq hx hb d_Md_saying_10 (tgt := 26) rfl (fun hc11 => ?_) (fun hc11 => ?_)
  · have h := h.1 hc11
    refine lv_iconst (v := (-1 : Int32)) hx hb d_Md_saying_26 (by decide) ?_
    exact x_iret hx hb hr hlocks hP hS h d_Md_saying_27
  · have h := h.2 hc11
    refine lv_iload_n hx hb d_Md_saying_13 rfl (lv_at hl 2 rfl) ?_
    refine lv_aload_n hx hb d_Md_saying_14 rfl (lv_at hl 0 rfl) ?_
    refine gfM_Md_119 C hP d_Md_saying_15 ?_
    refine lv_iload_n hx hb d_Md_saying_18 rfl (lv_at hl 1 rfl) ?_
    obtain ⟨j5, ej5, h_j5, h⟩ := h
    refine x_iald hx hb hK hP (33) 0 (Nat.le_of_ble_eq_true rfl) eM_sayCount rfl ej5 h_j5 (by decide) d_Md_saying_19 ?_
    refine x_gi (x_S C hP hS (c_Md_in l D κ hΘ sz p2 (I2 (33) j5) I2 J3 _ h) q_Md_in k_887 k_886 rfl rfl ⟨Nat.le_of_ble_eq_true rfl, Nat.le_of_ble_eq_true rfl⟩ rfl hl.1 rfl (Nat.le_of_ble_eq_true rfl) d_Md_saying_20) hS (fun r8 I6 J7 h H locs hP hS => ?_)
    refine lv_if_ne hx hb d_Md_saying_23 (tgt := 28) rfl (fun hc10 => ?_) (fun hc10 => ?_)
    · have h := h.1 hc10
      refine lv_aload_n hx hb d_Md_saying_28 rfl (lv_at hl 0 rfl) ?_
      refine gfM_Md_116 C hP d_Md_saying_29 ?_
      refine lv_bipush (v := (9 : Int32)) hx hb d_Md_saying_32 (by decide) ?_
      refine lv_iload_n hx hb d_Md_saying_34 rfl (lv_at hl 1 rfl) ?_
      refine lv_imul hx hb d_Md_saying_35 ?_
      refine lv_iload_n hx hb d_Md_saying_36 rfl (lv_at hl 2 rfl) ?_
      refine lv_iadd hx hb d_Md_saying_37 ?_
      obtain ⟨j9, ej9, h_j9, h⟩ := h
      refine x_iald hx hb hK hP (32) 0 (Nat.le_of_ble_eq_true rfl) eM_says rfl ej9 h_j9 (by decide) d_Md_saying_38 ?_
      exact x_iret hx hb hr hlocks hP hS h d_Md_saying_39
    · have h := h.2 hc10
      refine lv_iconst (v := (-1 : Int32)) hx hb d_Md_saying_26 (by decide) ?_
      exact x_iret hx hb hr hlocks hP hS h d_Md_saying_27
set_option maxHeartbeats 4000000 in
set_option maxRecDepth 100000 in
theorem c_Md_coded (l : Launch) (D : va_G) (κ : Nat → ClassId) {Θ : Nat → Nat} (hΘ : xJ 34 Θ) (sz : Nat) (p1 : Int32) (p2 : Int32) (I : SI) (J : SJ) (post : Int64 → SI → SJ → Prop) (h : p_Md_coded p1 p2 post I J) : Met l y_Md_coded WS rm_Md_coded (va_Pc [.ref (Θ (0)), .int p1, .int p2] (xPR D clA (tysA κ) 34 Θ (eM Θ κ) sz I J)) (xQl D clA 34 Θ (eM Θ κ) sz post) 0 0 (xA 34 Θ sz) := by
  refine xMet (cc := b_Md_coded) (maxL := 3) (ret := (some .long)) (by decide) q_Md_coded.1 ?_
  intro p e s m args below meth c s₁ B hml hv
  obtain ⟨hargs, hsz, hP, hK, hN, hG⟩ := hv
  have hx := B.exec
  have hb := B.bytes
  have hr := B.returns
  have hlocks := B.notSynchronized
  have hts := atoms_spec (ws := WS) B.pre
  have hown : s.vm.findClass R_Md = some m.cls := findClass_of_methodNamed B.named
  have C : xC p m c b_Md_coded 3 s args R_Md D clA (tysA κ) 34 Θ sz := ⟨⟨hx, hb, hml, hown, hts⟩, hK, hN, hG, hsz⟩
  have hS : va_S (xA 34 Θ sz) s.heap s.heap [] := va_S.rf
  have hE := lg_entry_eq m [.ref (Θ (0)), .int p1, .int p2] 3
  rw [← hargs] at hE
  rw [hE]
  have hl := lv_entry [.ref (Θ (0)), .int p1, .int p2] (n := 3) (Nat.le_of_ble_eq_true rfl)
  generalize (lg_sl [.ref (Θ (0)), .int p1, .int p2] ++ List.replicate (3 - (lg_sl [.ref (Θ (0)), .int p1, .int p2]).length) Slot.unset).toArray = ls at hl ⊢
  have hl : lv_has ls 3 [(0, .ref (Θ (0))), (1, .int p1), (2, .int p2)] := hl
  unfold p_Md_coded at h
  refine lv_aload_n hx hb d_Md_coded_0 rfl (lv_at hl 0 rfl) ?_
  refine lv_iconst (v := (0 : Int32)) hx hb d_Md_coded_1 (by decide) ?_
  refine pfM_Md_7 C hΘ hP hS d_Md_coded_2 (fun H locs hP hS => ?_)
  obtain ⟨I1, eI1⟩ : ∃ y, y = xu I (0) 0 (0 : Int32) := ⟨_, rfl⟩
  have hP : va_P D clA (xw 34 Θ (eM Θ κ) I1 J) H := by rw [eI1]; exact hP
  have h := h I1 eI1
  refine lv_iload_n hx hb d_Md_coded_5 rfl (lv_at hl 1 rfl) ?_
  refine lv_ldc (v := (1048575 : Int32)) hx hb hown (hts _ k_1061) d_Md_coded_6 ?_
  refine lv_iand hx hb d_Md_coded_8 ?_
  refine lv_iload_n hx hb d_Md_coded_9 rfl (lv_at hl 2 rfl) ?_
  refine lv_bipush (v := (7 : Int32)) hx hb d_Md_coded_10 (by decide) ?_
  refine lv_iand hx hb d_Md_coded_12 ?_
  refine x_gl (x_S C hP hS (c_Md_burstOf l D κ hΘ sz (p1 &&& (1048575 : Int32)) (p2 &&& (7 : Int32)) I1 J _ h) q_Md_burstOf k_973 k_972 rfl rfl ⟨Nat.le_of_ble_eq_true rfl, Nat.le_of_ble_eq_true rfl⟩ rfl hl.1 rfl (Nat.le_of_ble_eq_true rfl) d_Md_coded_13) hS (fun r4 I2 J3 h H locs hP hS => ?_)
  exact x_lret hx hb hr hlocks hP hS h d_Md_coded_16
set_option maxHeartbeats 4000000 in
set_option maxRecDepth 100000 in
theorem c_Md_decoded (l : Launch) (D : va_G) (κ : Nat → ClassId) {Θ : Nat → Nat} (hΘ : xJ 34 Θ) (sz : Nat) (p1 : Int64) (p3 : Int32) (I : SI) (J : SJ) (post : Int32 → SI → SJ → Prop) (h : p_Md_decoded p1 p3 post I J) : Met l y_Md_decoded WS rm_Md_decoded (va_Pc [.ref (Θ (0)), .long p1, .int p3] (xPR D clA (tysA κ) 34 Θ (eM Θ κ) sz I J)) (xQi D clA 34 Θ (eM Θ κ) sz post) 0 0 (xA 34 Θ sz) := by
  refine xMet (cc := b_Md_decoded) (maxL := 4) (ret := (some .int)) (by decide) q_Md_decoded.1 ?_
  intro p e s m args below meth c s₁ B hml hv
  obtain ⟨hargs, hsz, hP, hK, hN, hG⟩ := hv
  have hx := B.exec
  have hb := B.bytes
  have hr := B.returns
  have hlocks := B.notSynchronized
  have hts := atoms_spec (ws := WS) B.pre
  have hown : s.vm.findClass R_Md = some m.cls := findClass_of_methodNamed B.named
  have C : xC p m c b_Md_decoded 4 s args R_Md D clA (tysA κ) 34 Θ sz := ⟨⟨hx, hb, hml, hown, hts⟩, hK, hN, hG, hsz⟩
  have hS : va_S (xA 34 Θ sz) s.heap s.heap [] := va_S.rf
  have hE := lg_entry_eq m [.ref (Θ (0)), .long p1, .int p3] 4
  rw [← hargs] at hE
  rw [hE]
  have hl := lv_entry [.ref (Θ (0)), .long p1, .int p3] (n := 4) (Nat.le_of_ble_eq_true rfl)
  generalize (lg_sl [.ref (Θ (0)), .long p1, .int p3] ++ List.replicate (4 - (lg_sl [.ref (Θ (0)), .long p1, .int p3]).length) Slot.unset).toArray = ls at hl ⊢
  have hl : lv_has ls 4 [(0, .ref (Θ (0))), (1, .long p1), (3, .int p3)] := hl
  unfold p_Md_decoded at h
  refine lv_aload_n hx hb d_Md_decoded_0 rfl (lv_at hl 0 rfl) ?_
  refine lv_iconst (v := (0 : Int32)) hx hb d_Md_decoded_1 (by decide) ?_
  refine pfM_Md_7 C hΘ hP hS d_Md_decoded_2 (fun H locs hP hS => ?_)
  obtain ⟨I1, eI1⟩ : ∃ y, y = xu I (0) 0 (0 : Int32) := ⟨_, rfl⟩
  have hP : va_P D clA (xw 34 Θ (eM Θ κ) I1 J) H := by rw [eI1]; exact hP
  have h := h I1 eI1
  refine lv_aload_n hx hb d_Md_decoded_5 rfl (lv_at hl 0 rfl) ?_
  refine lv_lload_n hx hb d_Md_decoded_6 rfl (lv_at hl 1 rfl) ?_
  refine lv_ldc2 (v := (18014398509481983 : Int64)) hx hb hown (hts _ k_942) d_Md_decoded_7 ?_
  refine lv_land hx hb d_Md_decoded_10 ?_
  refine lv_iload_n hx hb d_Md_decoded_11 rfl (lv_at hl 2 rfl) ?_
  refine lv_bipush (v := (7 : Int32)) hx hb d_Md_decoded_12 (by decide) ?_
  refine lv_iand hx hb d_Md_decoded_14 ?_
  refine x_gi (x_V C hP hS (Nat.le_of_ble_eq_true rfl) (eM_Md _ _) rfl (c_Md_blockOf l D κ hΘ sz (p1 &&& (18014398509481983 : Int64)) (p3 &&& (7 : Int32)) I1 J _ h) q_Md_blockOf k_986 sel_Md_blockOf k_984 rfl rfl ⟨Nat.le_of_ble_eq_true rfl, Nat.le_of_ble_eq_true rfl⟩ rfl hl.1 rfl (Nat.le_of_ble_eq_true rfl) d_Md_decoded_15) hS (fun r4 I2 J3 h H locs hP hS => ?_)
  exact x_iret hx hb hr hlocks hP hS h d_Md_decoded_18
set_option maxHeartbeats 4000000 in
set_option maxRecDepth 100000 in
theorem c_Md_distance (l : Launch) (D : va_G) (κ : Nat → ClassId) {Θ : Nat → Nat} (hΘ : xJ 34 Θ) (sz : Nat) (p1 : Int64) (p3 : Int32) (I : SI) (J : SJ) (post : Int32 → SI → SJ → Prop) (h : p_Md_distance p1 p3 post I J) : Met l y_Md_distance WS rm_Md_distance (va_Pc [.ref (Θ (0)), .long p1, .int p3] (xPR D clA (tysA κ) 34 Θ (eM Θ κ) sz I J)) (xQi D clA 34 Θ (eM Θ κ) sz post) 0 0 (xA 34 Θ sz) := by
  refine xMet (cc := b_Md_distance) (maxL := 4) (ret := (some .int)) (by decide) q_Md_distance.1 ?_
  intro p e s m args below meth c s₁ B hml hv
  obtain ⟨hargs, hsz, hP, hK, hN, hG⟩ := hv
  have hx := B.exec
  have hb := B.bytes
  have hr := B.returns
  have hlocks := B.notSynchronized
  have hts := atoms_spec (ws := WS) B.pre
  have hown : s.vm.findClass R_Md = some m.cls := findClass_of_methodNamed B.named
  have C : xC p m c b_Md_distance 4 s args R_Md D clA (tysA κ) 34 Θ sz := ⟨⟨hx, hb, hml, hown, hts⟩, hK, hN, hG, hsz⟩
  have hS : va_S (xA 34 Θ sz) s.heap s.heap [] := va_S.rf
  have hE := lg_entry_eq m [.ref (Θ (0)), .long p1, .int p3] 4
  rw [← hargs] at hE
  rw [hE]
  have hl := lv_entry [.ref (Θ (0)), .long p1, .int p3] (n := 4) (Nat.le_of_ble_eq_true rfl)
  generalize (lg_sl [.ref (Θ (0)), .long p1, .int p3] ++ List.replicate (4 - (lg_sl [.ref (Θ (0)), .long p1, .int p3]).length) Slot.unset).toArray = ls at hl ⊢
  have hl : lv_has ls 4 [(0, .ref (Θ (0))), (1, .long p1), (3, .int p3)] := hl
  unfold p_Md_distance at h
  refine lv_aload_n hx hb d_Md_distance_0 rfl (lv_at hl 0 rfl) ?_
  refine lv_iconst (v := (0 : Int32)) hx hb d_Md_distance_1 (by decide) ?_
  refine pfM_Md_7 C hΘ hP hS d_Md_distance_2 (fun H locs hP hS => ?_)
  obtain ⟨I1, eI1⟩ : ∃ y, y = xu I (0) 0 (0 : Int32) := ⟨_, rfl⟩
  have hP : va_P D clA (xw 34 Θ (eM Θ κ) I1 J) H := by rw [eI1]; exact hP
  have h := h I1 eI1
  refine lv_aload_n hx hb d_Md_distance_5 rfl (lv_at hl 0 rfl) ?_
  refine lv_lload_n hx hb d_Md_distance_6 rfl (lv_at hl 1 rfl) ?_
  refine lv_ldc2 (v := (18014398509481983 : Int64)) hx hb hown (hts _ k_942) d_Md_distance_7 ?_
  refine lv_land hx hb d_Md_distance_10 ?_
  refine lv_iload_n hx hb d_Md_distance_11 rfl (lv_at hl 2 rfl) ?_
  refine lv_bipush (v := (7 : Int32)) hx hb d_Md_distance_12 (by decide) ?_
  refine lv_iand hx hb d_Md_distance_14 ?_
  refine x_gv (x_V C hP hS (Nat.le_of_ble_eq_true rfl) (eM_Md _ _) rfl (c_Md_nearest l D κ hΘ sz (p1 &&& (18014398509481983 : Int64)) (p3 &&& (7 : Int32)) I1 J _ h) q_Md_nearest k_990 sel_Md_nearest k_988 rfl rfl ⟨Nat.le_of_ble_eq_true rfl, Nat.le_of_ble_eq_true rfl⟩ rfl hl.1 rfl (Nat.le_of_ble_eq_true rfl) d_Md_distance_15) hS (fun I2 J3 h H locs hP hS => ?_)
  refine lv_aload_n hx hb d_Md_distance_18 rfl (lv_at hl 0 rfl) ?_
  refine gfM_Md_24 C hP d_Md_distance_19 ?_
  exact x_iret hx hb hr hlocks hP hS h d_Md_distance_22
