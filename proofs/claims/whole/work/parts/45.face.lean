theorem d_TC_keys_0 : decode b_TC_keys 0 = .ok (.iload_n 1, 1) := by decide +kernel
theorem d_TC_keys_1 : decode b_TC_keys 1 = .ok (.bipush (8), 2) := by decide +kernel
theorem d_TC_keys_3 : decode b_TC_keys 3 = .ok (.invokestatic 40, 3) := by decide +kernel
theorem d_TC_keys_6 : decode b_TC_keys 6 = .ok (.aload_n 0, 1) := by decide +kernel
theorem d_TC_keys_7 : decode b_TC_keys 7 = .ok (.getfield 25, 3) := by decide +kernel
theorem d_TC_keys_10 : decode b_TC_keys 10 = .ok (.iload_n 1, 1) := by decide +kernel
theorem d_TC_keys_11 : decode b_TC_keys 11 = .ok (.aaload, 1) := by decide +kernel
theorem d_TC_keys_12 : decode b_TC_keys 12 = .ok (.iload_n 2, 1) := by decide +kernel
theorem d_TC_keys_13 : decode b_TC_keys 13 = .ok (.putfield 44, 3) := by decide +kernel
theorem d_TC_keys_16 : decode b_TC_keys 16 = .ok (.aload_n 0, 1) := by decide +kernel
theorem d_TC_keys_17 : decode b_TC_keys 17 = .ok (.getfield 19, 3) := by decide +kernel
theorem d_TC_keys_20 : decode b_TC_keys 20 = .ok (.getfield 47, 3) := by decide +kernel
theorem d_TC_keys_23 : decode b_TC_keys 23 = .ok (.iload_n 1, 1) := by decide +kernel
theorem d_TC_keys_24 : decode b_TC_keys 24 = .ok (.iload_n 3, 1) := by decide +kernel
theorem d_TC_keys_25 : decode b_TC_keys 25 = .ok (.iastore, 1) := by decide +kernel
theorem d_TC_keys_26 : decode b_TC_keys 26 = .ok (.return_, 1) := by decide +kernel
theorem d_TC_group_0 : decode b_TC_group 0 = .ok (.iload_n 1, 1) := by decide +kernel
theorem d_TC_group_1 : decode b_TC_group 1 = .ok (.iconst (4), 1) := by decide +kernel
theorem d_TC_group_2 : decode b_TC_group 2 = .ok (.invokestatic 40, 3) := by decide +kernel
theorem d_TC_group_5 : decode b_TC_group 5 = .ok (.aload_n 0, 1) := by decide +kernel
theorem d_TC_group_6 : decode b_TC_group 6 = .ok (.getfield 19, 3) := by decide +kernel
theorem d_TC_group_9 : decode b_TC_group 9 = .ok (.getfield 51, 3) := by decide +kernel
theorem d_TC_group_12 : decode b_TC_group 12 = .ok (.iload_n 1, 1) := by decide +kernel
theorem d_TC_group_13 : decode b_TC_group 13 = .ok (.aaload, 1) := by decide +kernel
theorem d_TC_group_14 : decode b_TC_group 14 = .ok (.iload_n 2, 1) := by decide +kernel
theorem d_TC_group_15 : decode b_TC_group 15 = .ok (.putfield 55, 3) := by decide +kernel
theorem d_TC_group_18 : decode b_TC_group 18 = .ok (.return_, 1) := by decide +kernel
theorem d_TC_member_0 : decode b_TC_member 0 = .ok (.iload_n 1, 1) := by decide +kernel
theorem d_TC_member_1 : decode b_TC_member 1 = .ok (.bipush (8), 2) := by decide +kernel
theorem d_TC_member_3 : decode b_TC_member 3 = .ok (.invokestatic 40, 3) := by decide +kernel
theorem d_TC_member_6 : decode b_TC_member 6 = .ok (.aload_n 0, 1) := by decide +kernel
theorem d_TC_member_7 : decode b_TC_member 7 = .ok (.getfield 19, 3) := by decide +kernel
theorem d_TC_member_10 : decode b_TC_member 10 = .ok (.getfield 58, 3) := by decide +kernel
theorem d_TC_member_13 : decode b_TC_member 13 = .ok (.iload_n 1, 1) := by decide +kernel
theorem d_TC_member_14 : decode b_TC_member 14 = .ok (.iload_n 2, 1) := by decide +kernel
theorem d_TC_member_15 : decode b_TC_member 15 = .ok (.bipush (15), 2) := by decide +kernel
theorem d_TC_member_17 : decode b_TC_member 17 = .ok (.iand, 1) := by decide +kernel
theorem d_TC_member_18 : decode b_TC_member 18 = .ok (.iastore, 1) := by decide +kernel
theorem d_TC_member_19 : decode b_TC_member 19 = .ok (.return_, 1) := by decide +kernel
theorem d_TC_move_0 : decode b_TC_move 0 = .ok (.iload_n 1, 1) := by decide +kernel
theorem d_TC_move_1 : decode b_TC_move 1 = .ok (.bipush (8), 2) := by decide +kernel
theorem d_TC_move_3 : decode b_TC_move 3 = .ok (.invokestatic 40, 3) := by decide +kernel
theorem d_TC_move_6 : decode b_TC_move 6 = .ok (.iload_n 2, 1) := by decide +kernel
theorem d_TC_move_7 : decode b_TC_move 7 = .ok (.iconst (-1), 1) := by decide +kernel
theorem d_TC_move_8 : decode b_TC_move 8 = .ok (.if_icmp .eq (8), 3) := by decide +kernel
theorem d_TC_move_11 : decode b_TC_move 11 = .ok (.iload_n 2, 1) := by decide +kernel
theorem d_TC_move_12 : decode b_TC_move 12 = .ok (.iconst (3), 1) := by decide +kernel
theorem d_TC_move_13 : decode b_TC_move 13 = .ok (.invokestatic 40, 3) := by decide +kernel
theorem d_TC_move_16 : decode b_TC_move 16 = .ok (.aload_n 0, 1) := by decide +kernel
theorem d_TC_move_17 : decode b_TC_move 17 = .ok (.getfield 25, 3) := by decide +kernel
theorem d_TC_move_20 : decode b_TC_move 20 = .ok (.iload_n 1, 1) := by decide +kernel
theorem d_TC_move_21 : decode b_TC_move 21 = .ok (.aaload, 1) := by decide +kernel
theorem d_TC_move_22 : decode b_TC_move 22 = .ok (.astore_n 3, 1) := by decide +kernel
theorem d_TC_move_23 : decode b_TC_move 23 = .ok (.aload_n 3, 1) := by decide +kernel
theorem d_TC_move_24 : decode b_TC_move 24 = .ok (.iload_n 2, 1) := by decide +kernel
theorem d_TC_move_25 : decode b_TC_move 25 = .ok (.putfield 61, 3) := by decide +kernel
theorem d_TC_move_28 : decode b_TC_move 28 = .ok (.aload_n 3, 1) := by decide +kernel
theorem d_TC_move_29 : decode b_TC_move 29 = .ok (.getfield 64, 3) := by decide +kernel
theorem d_TC_move_32 : decode b_TC_move 32 = .ok (.invokevirtual 68, 3) := by decide +kernel
theorem d_TC_move_35 : decode b_TC_move 35 = .ok (.aload_n 3, 1) := by decide +kernel
theorem d_TC_move_36 : decode b_TC_move 36 = .ok (.iconst (-1), 1) := by decide +kernel
theorem d_TC_move_37 : decode b_TC_move 37 = .ok (.putfield 73, 3) := by decide +kernel
theorem d_TC_move_40 : decode b_TC_move 40 = .ok (.aload_n 3, 1) := by decide +kernel
theorem d_TC_move_41 : decode b_TC_move 41 = .ok (.invokevirtual 76, 3) := by decide +kernel
theorem d_TC_move_44 : decode b_TC_move 44 = .ok (.return_, 1) := by decide +kernel
theorem d_TC_register_0 : decode b_TC_register 0 = .ok (.iload_n 1, 1) := by decide +kernel
theorem d_TC_register_1 : decode b_TC_register 1 = .ok (.bipush (8), 2) := by decide +kernel
theorem d_TC_register_3 : decode b_TC_register 3 = .ok (.invokestatic 40, 3) := by decide +kernel
theorem d_TC_register_6 : decode b_TC_register 6 = .ok (.aload_n 0, 1) := by decide +kernel
theorem d_TC_register_7 : decode b_TC_register 7 = .ok (.getfield 25, 3) := by decide +kernel
theorem d_TC_register_10 : decode b_TC_register 10 = .ok (.iload_n 1, 1) := by decide +kernel
theorem d_TC_register_11 : decode b_TC_register 11 = .ok (.aaload, 1) := by decide +kernel
theorem d_TC_register_12 : decode b_TC_register 12 = .ok (.invokestatic 79, 3) := by decide +kernel
theorem d_TC_register_15 : decode b_TC_register 15 = .ok (.aload_n 0, 1) := by decide +kernel
theorem d_TC_register_16 : decode b_TC_register 16 = .ok (.getfield 25, 3) := by decide +kernel
theorem d_TC_register_19 : decode b_TC_register 19 = .ok (.iload_n 1, 1) := by decide +kernel
theorem d_TC_register_20 : decode b_TC_register 20 = .ok (.aaload, 1) := by decide +kernel
theorem d_TC_register_21 : decode b_TC_register 21 = .ok (.getfield 64, 3) := by decide +kernel
theorem d_TC_register_24 : decode b_TC_register 24 = .ok (.iconst (1), 1) := by decide +kernel
theorem d_TC_register_25 : decode b_TC_register 25 = .ok (.iload_n 1, 1) := by decide +kernel
theorem d_TC_register_26 : decode b_TC_register 26 = .ok (.iconst (0), 1) := by decide +kernel
theorem d_TC_register_27 : decode b_TC_register 27 = .ok (.iconst (0), 1) := by decide +kernel
theorem d_TC_register_28 : decode b_TC_register 28 = .ok (.iconst (0), 1) := by decide +kernel
theorem d_TC_register_29 : decode b_TC_register 29 = .ok (.invokestatic 85, 3) := by decide +kernel
theorem d_TC_register_32 : decode b_TC_register 32 = .ok (.invokevirtual 89, 3) := by decide +kernel
theorem d_TC_register_35 : decode b_TC_register 35 = .ok (.return_, 1) := by decide +kernel
theorem d_TC_press_0 : decode b_TC_press 0 = .ok (.iload_n 1, 1) := by decide +kernel
theorem d_TC_press_1 : decode b_TC_press 1 = .ok (.bipush (8), 2) := by decide +kernel
theorem d_TC_press_3 : decode b_TC_press 3 = .ok (.invokestatic 40, 3) := by decide +kernel
theorem d_TC_press_6 : decode b_TC_press 6 = .ok (.iload_n 2, 1) := by decide +kernel
theorem d_TC_press_7 : decode b_TC_press 7 = .ok (.iconst (4), 1) := by decide +kernel
theorem d_TC_press_8 : decode b_TC_press 8 = .ok (.invokestatic 40, 3) := by decide +kernel
theorem d_TC_press_11 : decode b_TC_press 11 = .ok (.aload_n 0, 1) := by decide +kernel
theorem d_TC_press_12 : decode b_TC_press 12 = .ok (.getfield 25, 3) := by decide +kernel
theorem d_TC_press_15 : decode b_TC_press 15 = .ok (.iload_n 1, 1) := by decide +kernel
theorem d_TC_press_16 : decode b_TC_press 16 = .ok (.aaload, 1) := by decide +kernel
theorem d_TC_press_17 : decode b_TC_press 17 = .ok (.invokestatic 79, 3) := by decide +kernel
theorem d_TC_press_20 : decode b_TC_press 20 = .ok (.aload_n 0, 1) := by decide +kernel
theorem d_TC_press_21 : decode b_TC_press 21 = .ok (.getfield 25, 3) := by decide +kernel
theorem d_TC_press_24 : decode b_TC_press 24 = .ok (.iload_n 1, 1) := by decide +kernel
theorem d_TC_press_25 : decode b_TC_press 25 = .ok (.aaload, 1) := by decide +kernel
theorem d_TC_press_26 : decode b_TC_press 26 = .ok (.getfield 73, 3) := by decide +kernel
theorem d_TC_press_29 : decode b_TC_press 29 = .ok (.iconst (-1), 1) := by decide +kernel
theorem d_TC_press_30 : decode b_TC_press 30 = .ok (.if_icmp .eq (13), 3) := by decide +kernel
theorem d_TC_press_33 : decode b_TC_press 33 = .ok (.new 92, 3) := by decide +kernel
theorem d_TC_press_36 : decode b_TC_press 36 = .ok (.dup, 1) := by decide +kernel
theorem d_TC_press_37 : decode b_TC_press 37 = .ok (.ldc 94, 2) := by decide +kernel
theorem d_TC_press_39 : decode b_TC_press 39 = .ok (.invokespecial 96, 3) := by decide +kernel
theorem d_TC_press_42 : decode b_TC_press 42 = .ok (.athrow, 1) := by decide +kernel
theorem d_TC_press_43 : decode b_TC_press 43 = .ok (.aload_n 0, 1) := by decide +kernel
theorem d_TC_press_44 : decode b_TC_press 44 = .ok (.getfield 25, 3) := by decide +kernel
theorem d_TC_press_47 : decode b_TC_press 47 = .ok (.iload_n 1, 1) := by decide +kernel
theorem d_TC_press_48 : decode b_TC_press 48 = .ok (.aaload, 1) := by decide +kernel
theorem d_TC_press_49 : decode b_TC_press 49 = .ok (.iload_n 2, 1) := by decide +kernel
theorem d_TC_press_50 : decode b_TC_press 50 = .ok (.putfield 73, 3) := by decide +kernel
theorem d_TC_press_53 : decode b_TC_press 53 = .ok (.aload_n 0, 1) := by decide +kernel
theorem d_TC_press_54 : decode b_TC_press 54 = .ok (.getfield 25, 3) := by decide +kernel
theorem d_TC_press_57 : decode b_TC_press 57 = .ok (.iload_n 1, 1) := by decide +kernel
theorem d_TC_press_58 : decode b_TC_press 58 = .ok (.aaload, 1) := by decide +kernel
theorem d_TC_press_59 : decode b_TC_press 59 = .ok (.getfield 64, 3) := by decide +kernel
theorem d_TC_press_62 : decode b_TC_press 62 = .ok (.iconst (2), 1) := by decide +kernel
theorem d_TC_press_63 : decode b_TC_press 63 = .ok (.iload_n 1, 1) := by decide +kernel
theorem d_TC_press_64 : decode b_TC_press 64 = .ok (.iload_n 2, 1) := by decide +kernel
theorem d_TC_press_65 : decode b_TC_press 65 = .ok (.iload_n 3, 1) := by decide +kernel
theorem d_TC_press_66 : decode b_TC_press 66 = .ok (.iconst (0), 1) := by decide +kernel
theorem d_TC_press_67 : decode b_TC_press 67 = .ok (.invokestatic 85, 3) := by decide +kernel
theorem d_TC_press_70 : decode b_TC_press 70 = .ok (.invokevirtual 89, 3) := by decide +kernel
theorem d_TC_press_73 : decode b_TC_press 73 = .ok (.return_, 1) := by decide +kernel
theorem d_TC_release_0 : decode b_TC_release 0 = .ok (.iload_n 1, 1) := by decide +kernel
theorem d_TC_release_1 : decode b_TC_release 1 = .ok (.bipush (8), 2) := by decide +kernel
theorem d_TC_release_3 : decode b_TC_release 3 = .ok (.invokestatic 40, 3) := by decide +kernel
theorem d_TC_release_6 : decode b_TC_release 6 = .ok (.aload_n 0, 1) := by decide +kernel
theorem d_TC_release_7 : decode b_TC_release 7 = .ok (.getfield 25, 3) := by decide +kernel
theorem d_TC_release_10 : decode b_TC_release 10 = .ok (.iload_n 1, 1) := by decide +kernel
theorem d_TC_release_11 : decode b_TC_release 11 = .ok (.aaload, 1) := by decide +kernel
theorem d_TC_release_12 : decode b_TC_release 12 = .ok (.iconst (-1), 1) := by decide +kernel
theorem d_TC_release_13 : decode b_TC_release 13 = .ok (.putfield 73, 3) := by decide +kernel
theorem d_TC_release_16 : decode b_TC_release 16 = .ok (.aload_n 0, 1) := by decide +kernel
theorem d_TC_release_17 : decode b_TC_release 17 = .ok (.getfield 25, 3) := by decide +kernel
theorem d_TC_release_20 : decode b_TC_release 20 = .ok (.iload_n 1, 1) := by decide +kernel
theorem d_TC_release_21 : decode b_TC_release 21 = .ok (.aaload, 1) := by decide +kernel
theorem d_TC_release_22 : decode b_TC_release 22 = .ok (.getfield 64, 3) := by decide +kernel
theorem d_TC_release_25 : decode b_TC_release 25 = .ok (.invokevirtual 99, 3) := by decide +kernel
theorem d_TC_release_28 : decode b_TC_release 28 = .ok (.iconst (2), 1) := by decide +kernel
theorem d_TC_release_29 : decode b_TC_release 29 = .ok (.if_icmp .ne (15), 3) := by decide +kernel
theorem d_TC_release_32 : decode b_TC_release 32 = .ok (.aload_n 0, 1) := by decide +kernel
theorem d_TC_release_33 : decode b_TC_release 33 = .ok (.getfield 25, 3) := by decide +kernel
theorem d_TC_release_36 : decode b_TC_release 36 = .ok (.iload_n 1, 1) := by decide +kernel
theorem d_TC_release_37 : decode b_TC_release 37 = .ok (.aaload, 1) := by decide +kernel
theorem d_TC_release_38 : decode b_TC_release 38 = .ok (.getfield 64, 3) := by decide +kernel
theorem d_TC_release_41 : decode b_TC_release 41 = .ok (.invokevirtual 68, 3) := by decide +kernel
theorem d_TC_release_44 : decode b_TC_release 44 = .ok (.return_, 1) := by decide +kernel
theorem d_TC_send_0 : decode b_TC_send 0 = .ok (.iload_n 1, 1) := by decide +kernel
theorem d_TC_send_1 : decode b_TC_send 1 = .ok (.bipush (8), 2) := by decide +kernel
theorem d_TC_send_3 : decode b_TC_send 3 = .ok (.invokestatic 40, 3) := by decide +kernel
theorem d_TC_send_6 : decode b_TC_send 6 = .ok (.iload_n 2, 1) := by decide +kernel
theorem d_TC_send_7 : decode b_TC_send 7 = .ok (.bipush (8), 2) := by decide +kernel
theorem d_TC_send_9 : decode b_TC_send 9 = .ok (.invokestatic 40, 3) := by decide +kernel
theorem d_TC_send_12 : decode b_TC_send 12 = .ok (.aload_n 0, 1) := by decide +kernel
theorem d_TC_send_13 : decode b_TC_send 13 = .ok (.getfield 25, 3) := by decide +kernel
theorem d_TC_send_16 : decode b_TC_send 16 = .ok (.iload_n 1, 1) := by decide +kernel
theorem d_TC_send_17 : decode b_TC_send 17 = .ok (.aaload, 1) := by decide +kernel
theorem d_TC_send_18 : decode b_TC_send 18 = .ok (.invokestatic 79, 3) := by decide +kernel
theorem d_TC_send_21 : decode b_TC_send 21 = .ok (.aload_n 0, 1) := by decide +kernel
theorem d_TC_send_22 : decode b_TC_send 22 = .ok (.getfield 25, 3) := by decide +kernel
theorem d_TC_send_25 : decode b_TC_send 25 = .ok (.iload_n 1, 1) := by decide +kernel
theorem d_TC_send_26 : decode b_TC_send 26 = .ok (.aaload, 1) := by decide +kernel
theorem d_TC_send_27 : decode b_TC_send 27 = .ok (.getfield 64, 3) := by decide +kernel
theorem d_TC_send_30 : decode b_TC_send 30 = .ok (.iconst (3), 1) := by decide +kernel
theorem d_TC_send_31 : decode b_TC_send 31 = .ok (.iload_n 1, 1) := by decide +kernel
theorem d_TC_send_32 : decode b_TC_send 32 = .ok (.iload_n 2, 1) := by decide +kernel
theorem d_TC_send_33 : decode b_TC_send 33 = .ok (.iload_n 3, 1) := by decide +kernel
theorem d_TC_send_34 : decode b_TC_send 34 = .ok (.invokestatic 103, 3) := by decide +kernel
theorem d_TC_send_37 : decode b_TC_send 37 = .ok (.invokevirtual 89, 3) := by decide +kernel
theorem d_TC_send_40 : decode b_TC_send 40 = .ok (.return_, 1) := by decide +kernel
theorem d_TC_speak_0 : decode b_TC_speak 0 = .ok (.iload_n 1, 1) := by decide +kernel
theorem d_TC_speak_1 : decode b_TC_speak 1 = .ok (.bipush (8), 2) := by decide +kernel
theorem d_TC_speak_3 : decode b_TC_speak 3 = .ok (.invokestatic 40, 3) := by decide +kernel
theorem d_TC_speak_6 : decode b_TC_speak 6 = .ok (.aload_n 0, 1) := by decide +kernel
theorem d_TC_speak_7 : decode b_TC_speak 7 = .ok (.getfield 25, 3) := by decide +kernel
theorem d_TC_speak_10 : decode b_TC_speak 10 = .ok (.iload_n 1, 1) := by decide +kernel
theorem d_TC_speak_11 : decode b_TC_speak 11 = .ok (.aaload, 1) := by decide +kernel
theorem d_TC_speak_12 : decode b_TC_speak 12 = .ok (.iload_n 2, 1) := by decide +kernel
theorem d_TC_speak_13 : decode b_TC_speak 13 = .ok (.ldc 107, 2) := by decide +kernel
theorem d_TC_speak_15 : decode b_TC_speak 15 = .ok (.iand, 1) := by decide +kernel
theorem d_TC_speak_16 : decode b_TC_speak 16 = .ok (.putfield 108, 3) := by decide +kernel
theorem d_TC_speak_19 : decode b_TC_speak 19 = .ok (.return_, 1) := by decide +kernel
theorem d_TC_draw_0 : decode b_TC_draw 0 = .ok (.iload_n 1, 1) := by decide +kernel
theorem d_TC_draw_1 : decode b_TC_draw 1 = .ok (.bipush (8), 2) := by decide +kernel
theorem d_TC_draw_3 : decode b_TC_draw 3 = .ok (.invokestatic 40, 3) := by decide +kernel
theorem d_TC_draw_6 : decode b_TC_draw 6 = .ok (.iload_n 2, 1) := by decide +kernel
theorem d_TC_draw_7 : decode b_TC_draw 7 = .ok (.ifCond .lt (9), 3) := by decide +kernel
theorem d_TC_draw_10 : decode b_TC_draw 10 = .ok (.iload_n 2, 1) := by decide +kernel
theorem d_TC_draw_11 : decode b_TC_draw 11 = .ok (.bipush (15), 2) := by decide +kernel
theorem d_TC_draw_13 : decode b_TC_draw 13 = .ok (.if_icmp .le (13), 3) := by decide +kernel
theorem d_TC_draw_16 : decode b_TC_draw 16 = .ok (.new 111, 3) := by decide +kernel
theorem d_TC_draw_19 : decode b_TC_draw 19 = .ok (.dup, 1) := by decide +kernel
theorem d_TC_draw_20 : decode b_TC_draw 20 = .ok (.ldc 113, 2) := by decide +kernel
theorem d_TC_draw_22 : decode b_TC_draw 22 = .ok (.invokespecial 115, 3) := by decide +kernel
theorem d_TC_draw_25 : decode b_TC_draw 25 = .ok (.athrow, 1) := by decide +kernel
theorem d_TC_draw_26 : decode b_TC_draw 26 = .ok (.aload_n 0, 1) := by decide +kernel
theorem d_TC_draw_27 : decode b_TC_draw 27 = .ok (.getfield 25, 3) := by decide +kernel
theorem d_TC_draw_30 : decode b_TC_draw 30 = .ok (.iload_n 1, 1) := by decide +kernel
theorem d_TC_draw_31 : decode b_TC_draw 31 = .ok (.aaload, 1) := by decide +kernel
theorem d_TC_draw_32 : decode b_TC_draw 32 = .ok (.iload_n 2, 1) := by decide +kernel
theorem d_TC_draw_33 : decode b_TC_draw 33 = .ok (.invokevirtual 116, 3) := by decide +kernel
theorem d_TC_draw_36 : decode b_TC_draw 36 = .ok (.ifCond .ne (13), 3) := by decide +kernel
theorem d_TC_draw_39 : decode b_TC_draw 39 = .ok (.new 92, 3) := by decide +kernel
theorem d_TC_draw_42 : decode b_TC_draw 42 = .ok (.dup, 1) := by decide +kernel
theorem d_TC_draw_43 : decode b_TC_draw 43 = .ok (.ldc 120, 2) := by decide +kernel
theorem d_TC_draw_45 : decode b_TC_draw 45 = .ok (.invokespecial 96, 3) := by decide +kernel
theorem d_TC_draw_48 : decode b_TC_draw 48 = .ok (.athrow, 1) := by decide +kernel
theorem d_TC_draw_49 : decode b_TC_draw 49 = .ok (.return_, 1) := by decide +kernel
theorem d_TC_fault_0 : decode b_TC_fault 0 = .ok (.iload_n 1, 1) := by decide +kernel
theorem d_TC_fault_1 : decode b_TC_fault 1 = .ok (.bipush (11), 2) := by decide +kernel
theorem d_TC_fault_3 : decode b_TC_fault 3 = .ok (.invokestatic 40, 3) := by decide +kernel
theorem d_TC_fault_6 : decode b_TC_fault 6 = .ok (.aload_n 0, 1) := by decide +kernel
theorem d_TC_fault_7 : decode b_TC_fault 7 = .ok (.getfield 32, 3) := by decide +kernel
theorem d_TC_fault_10 : decode b_TC_fault 10 = .ok (.iload_n 1, 1) := by decide +kernel
theorem d_TC_fault_11 : decode b_TC_fault 11 = .ok (.lload_n 2, 1) := by decide +kernel
theorem d_TC_fault_12 : decode b_TC_fault 12 = .ok (.ldc2_w 122, 3) := by decide +kernel
theorem d_TC_fault_15 : decode b_TC_fault 15 = .ok (.land, 1) := by decide +kernel
theorem d_TC_fault_16 : decode b_TC_fault 16 = .ok (.lastore, 1) := by decide +kernel
theorem d_TC_fault_17 : decode b_TC_fault 17 = .ok (.return_, 1) := by decide +kernel
theorem d_TC_tick_0 : decode b_TC_tick 0 = .ok (.iload_n 1, 1) := by decide +kernel
theorem d_TC_tick_1 : decode b_TC_tick 1 = .ok (.ifCond .lt (21), 3) := by decide +kernel
theorem d_TC_tick_4 : decode b_TC_tick 4 = .ok (.iload_n 1, 1) := by decide +kernel
theorem d_TC_tick_5 : decode b_TC_tick 5 = .ok (.sipush (200), 3) := by decide +kernel
theorem d_TC_tick_8 : decode b_TC_tick 8 = .ok (.if_icmp .gt (14), 3) := by decide +kernel
theorem d_TC_tick_11 : decode b_TC_tick 11 = .ok (.iload_n 1, 1) := by decide +kernel
theorem d_TC_tick_12 : decode b_TC_tick 12 = .ok (.ldc 124, 2) := by decide +kernel
theorem d_TC_tick_14 : decode b_TC_tick 14 = .ok (.aload_n 0, 1) := by decide +kernel
theorem d_TC_tick_15 : decode b_TC_tick 15 = .ok (.getfield 36, 3) := by decide +kernel
theorem d_TC_tick_18 : decode b_TC_tick 18 = .ok (.isub, 1) := by decide +kernel
theorem d_TC_tick_19 : decode b_TC_tick 19 = .ok (.if_icmp .le (13), 3) := by decide +kernel
theorem d_TC_tick_22 : decode b_TC_tick 22 = .ok (.new 111, 3) := by decide +kernel
theorem d_TC_tick_25 : decode b_TC_tick 25 = .ok (.dup, 1) := by decide +kernel
theorem d_TC_tick_26 : decode b_TC_tick 26 = .ok (.ldc 125, 2) := by decide +kernel
theorem d_TC_tick_28 : decode b_TC_tick 28 = .ok (.invokespecial 115, 3) := by decide +kernel
theorem d_TC_tick_31 : decode b_TC_tick 31 = .ok (.athrow, 1) := by decide +kernel
theorem d_TC_tick_32 : decode b_TC_tick 32 = .ok (.iconst (0), 1) := by decide +kernel
theorem d_TC_tick_33 : decode b_TC_tick 33 = .ok (.istore_n 2, 1) := by decide +kernel
theorem d_TC_tick_34 : decode b_TC_tick 34 = .ok (.iload_n 2, 1) := by decide +kernel
theorem d_TC_tick_35 : decode b_TC_tick 35 = .ok (.iload_n 1, 1) := by decide +kernel
theorem d_TC_tick_36 : decode b_TC_tick 36 = .ok (.if_icmp .ge (68), 3) := by decide +kernel
theorem d_TC_tick_39 : decode b_TC_tick 39 = .ok (.aload_n 0, 1) := by decide +kernel
theorem d_TC_tick_40 : decode b_TC_tick 40 = .ok (.getfield 36, 3) := by decide +kernel
theorem d_TC_tick_43 : decode b_TC_tick 43 = .ok (.iconst (4), 1) := by decide +kernel
theorem d_TC_tick_44 : decode b_TC_tick 44 = .ok (.irem, 1) := by decide +kernel
theorem d_TC_tick_45 : decode b_TC_tick 45 = .ok (.istore_n 3, 1) := by decide +kernel
theorem d_TC_tick_46 : decode b_TC_tick 46 = .ok (.aload_n 0, 1) := by decide +kernel
theorem d_TC_tick_47 : decode b_TC_tick 47 = .ok (.getfield 36, 3) := by decide +kernel
theorem d_TC_tick_50 : decode b_TC_tick 50 = .ok (.iconst (4), 1) := by decide +kernel
theorem d_TC_tick_51 : decode b_TC_tick 51 = .ok (.idiv, 1) := by decide +kernel
theorem d_TC_tick_52 : decode b_TC_tick 52 = .ok (.istore 4, 2) := by decide +kernel
theorem d_TC_tick_54 : decode b_TC_tick 54 = .ok (.iload_n 3, 1) := by decide +kernel
theorem d_TC_tick_55 : decode b_TC_tick 55 = .ok (.ifCond .ne (12), 3) := by decide +kernel
theorem d_TC_tick_58 : decode b_TC_tick 58 = .ok (.aload_n 0, 1) := by decide +kernel
theorem d_TC_tick_59 : decode b_TC_tick 59 = .ok (.iload 4, 2) := by decide +kernel
theorem d_TC_tick_61 : decode b_TC_tick 61 = .ok (.invokevirtual 127, 3) := by decide +kernel
theorem d_TC_tick_64 : decode b_TC_tick 64 = .ok (.goto (10), 3) := by decide +kernel
theorem d_TC_tick_67 : decode b_TC_tick 67 = .ok (.aload_n 0, 1) := by decide +kernel
theorem d_TC_tick_68 : decode b_TC_tick 68 = .ok (.iload_n 3, 1) := by decide +kernel
theorem d_TC_tick_69 : decode b_TC_tick 69 = .ok (.iload 4, 2) := by decide +kernel
theorem d_TC_tick_71 : decode b_TC_tick 71 = .ok (.invokevirtual 130, 3) := by decide +kernel
theorem d_TC_tick_74 : decode b_TC_tick 74 = .ok (.iload_n 3, 1) := by decide +kernel
theorem d_TC_tick_75 : decode b_TC_tick 75 = .ok (.iconst (3), 1) := by decide +kernel
theorem d_TC_tick_76 : decode b_TC_tick 76 = .ok (.if_icmp .ne (12), 3) := by decide +kernel
theorem d_TC_tick_79 : decode b_TC_tick 79 = .ok (.aload_n 0, 1) := by decide +kernel
theorem d_TC_tick_80 : decode b_TC_tick 80 = .ok (.getfield 19, 3) := by decide +kernel
theorem d_TC_tick_83 : decode b_TC_tick 83 = .ok (.iload 4, 2) := by decide +kernel
theorem d_TC_tick_85 : decode b_TC_tick 85 = .ok (.invokevirtual 133, 3) := by decide +kernel
theorem d_TC_tick_88 : decode b_TC_tick 88 = .ok (.aload_n 0, 1) := by decide +kernel
theorem d_TC_tick_89 : decode b_TC_tick 89 = .ok (.dup, 1) := by decide +kernel
theorem d_TC_tick_90 : decode b_TC_tick 90 = .ok (.getfield 36, 3) := by decide +kernel
theorem d_TC_tick_93 : decode b_TC_tick 93 = .ok (.iconst (1), 1) := by decide +kernel
theorem d_TC_tick_94 : decode b_TC_tick 94 = .ok (.iadd, 1) := by decide +kernel
theorem d_TC_tick_95 : decode b_TC_tick 95 = .ok (.putfield 36, 3) := by decide +kernel
theorem d_TC_tick_98 : decode b_TC_tick 98 = .ok (.iinc 2 (1), 3) := by decide +kernel
theorem d_TC_tick_101 : decode b_TC_tick 101 = .ok (.goto (-67), 3) := by decide +kernel
theorem d_TC_tick_104 : decode b_TC_tick 104 = .ok (.aload_n 0, 1) := by decide +kernel
theorem d_TC_tick_105 : decode b_TC_tick 105 = .ok (.getfield 36, 3) := by decide +kernel
theorem d_TC_tick_108 : decode b_TC_tick 108 = .ok (.ireturn, 1) := by decide +kernel
def p_TC_keys (p1 : Int32) (p2 : Int32) (p3 : Int32) (post : SI → SJ → Prop) (exc : Nat → SI → SJ → Prop) (I : SI) (J : SJ) : Prop :=
  pn_TC_needIndex p1 (8 : Int32) (∃ j1, p1 = nI j1 ∧ j1 < 8 ∧ ∀ I2, I2 = xu I (14 + j1) 4 p2 → ∃ j3, p1 = nI j3 ∧ j3 < 8 ∧ ∀ I4, I4 = xu I2 (7) j3 p3 → post I4 J) (fun k => exc k I J) I J
abbrev rm_TC_keys : Room := { frames := 7, cells := 1, slots := 6, locals := 103 }
def p_TC_group (p1 : Int32) (p2 : Int32) (post : SI → SJ → Prop) (exc : Nat → SI → SJ → Prop) (I : SI) (J : SJ) : Prop :=
  pn_TC_needIndex p1 (4 : Int32) (∃ j1, p1 = nI j1 ∧ j1 < 4 ∧ ∀ I2, I2 = xu I (38 + j1) 2 p2 → post I2 J) (fun k => exc k I J) I J
abbrev rm_TC_group : Room := { frames := 7, cells := 1, slots := 6, locals := 103 }
def p_TC_member (p1 : Int32) (p2 : Int32) (post : SI → SJ → Prop) (exc : Nat → SI → SJ → Prop) (I : SI) (J : SJ) : Prop :=
  pn_TC_needIndex p1 (8 : Int32) (∃ j1, p1 = nI j1 ∧ j1 < 8 ∧ ∀ I2, I2 = xu I (9) j1 (p2 &&& (15 : Int32)) → post I2 J) (fun k => exc k I J) I J
abbrev rm_TC_member : Room := { frames := 7, cells := 1, slots := 6, locals := 103 }
def p_TC_move (p1 : Int32) (p2 : Int32) (post : SI → SJ → Prop) (exc : Nat → SI → SJ → Prop) (I : SI) (J : SJ) : Prop :=
  pn_TC_needIndex p1 (8 : Int32) (((p2 = (-1 : Int32) → ∃ j1, p1 = nI j1 ∧ j1 < 8 ∧ ∀ I2, I2 = xu I (14 + j1) 6 p2 → p_Me_drop j1 (fun I3 J4 => ∀ I5, I5 = xu I3 (14 + j1) 7 (-1 : Int32) → p_Mo_turnIdle j1 (fun I6 J7 => post I6 J7) I5 J4) I2 J) ∧ (¬ p2 = (-1 : Int32) → pn_TC_needIndex p2 (3 : Int32) (∃ j8, p1 = nI j8 ∧ j8 < 8 ∧ ∀ I9, I9 = xu I (14 + j8) 6 p2 → p_Me_drop j8 (fun I10 J11 => ∀ I12, I12 = xu I10 (14 + j8) 7 (-1 : Int32) → p_Mo_turnIdle j8 (fun I13 J14 => post I13 J14) I12 J11) I9 J) (fun k => exc k I J) I J))) (fun k => exc k I J) I J
abbrev rm_TC_move : Room := { frames := 7, cells := 1, slots := 6, locals := 103 }
def p_TC_register (p1 : Int32) (post : SI → SJ → Prop) (exc : Nat → SI → SJ → Prop) (I : SI) (J : SJ) : Prop :=
  pn_TC_needIndex p1 (8 : Int32) (∃ j1, p1 = nI j1 ∧ j1 < 8 ∧ pn_TC_needRoomForMessage j1 (∃ j2, p1 = nI j2 ∧ j2 < 8 ∧ p_Bk_of (1 : Int32) p1 (0 : Int32) (0 : Int32) (0 : Int32) (fun r5 I3 J4 => p_Me_put j2 r5 (fun I6 J7 => post I6 J7) I3 J4) I J) (fun k => exc k I J) I J) (fun k => exc k I J) I J
abbrev rm_TC_register : Room := { frames := 7, cells := 1, slots := 6, locals := 103 }
def p_TC_press (p1 : Int32) (p2 : Int32) (p3 : Int32) (post : SI → SJ → Prop) (exc : Nat → SI → SJ → Prop) (I : SI) (J : SJ) : Prop :=
  pn_TC_needIndex p1 (8 : Int32) (pn_TC_needIndex p2 (4 : Int32) (∃ j1, p1 = nI j1 ∧ j1 < 8 ∧ pn_TC_needRoomForMessage j1 (∃ j2, p1 = nI j2 ∧ j2 < 8 ∧ (((I (14 + j2) 7) = (-1 : Int32) → ∃ j3, p1 = nI j3 ∧ j3 < 8 ∧ ∀ I4, I4 = xu I (14 + j3) 7 p2 → ∃ j5, p1 = nI j5 ∧ j5 < 8 ∧ p_Bk_of (2 : Int32) p1 p2 p3 (0 : Int32) (fun r8 I6 J7 => p_Me_put j5 r8 (fun I9 J10 => post I9 J10) I6 J7) I4 J) ∧ (¬ (I (14 + j2) 7) = (-1 : Int32) → exc 2 I J))) (fun k => exc k I J) I J) (fun k => exc k I J) I J) (fun k => exc k I J) I J
abbrev rm_TC_press : Room := { frames := 7, cells := 1, slots := 6, locals := 103 }
def p_TC_release (p1 : Int32) (post : SI → SJ → Prop) (exc : Nat → SI → SJ → Prop) (I : SI) (J : SJ) : Prop :=
  pn_TC_needIndex p1 (8 : Int32) (∃ j1, p1 = nI j1 ∧ j1 < 8 ∧ ∀ I2, I2 = xu I (14 + j1) 7 (-1 : Int32) → ∃ j3, p1 = nI j3 ∧ j3 < 8 ∧ p_Me_kind j3 (fun r6 I4 J5 => ((¬ r6 = (2 : Int32) → post I4 J5) ∧ (r6 = (2 : Int32) → ∃ j7, p1 = nI j7 ∧ j7 < 8 ∧ p_Me_drop j7 (fun I8 J9 => post I8 J9) I4 J5))) I2 J) (fun k => exc k I J) I J
abbrev rm_TC_release : Room := { frames := 7, cells := 1, slots := 6, locals := 103 }
def p_TC_send (p1 : Int32) (p2 : Int32) (p3 : Int32) (post : SI → SJ → Prop) (exc : Nat → SI → SJ → Prop) (I : SI) (J : SJ) : Prop :=
  pn_TC_needIndex p1 (8 : Int32) (pn_TC_needIndex p2 (8 : Int32) (∃ j1, p1 = nI j1 ∧ j1 < 8 ∧ pn_TC_needRoomForMessage j1 (∃ j2, p1 = nI j2 ∧ j2 < 8 ∧ p_Bk_ofData (3 : Int32) p1 p2 p3 (fun r5 I3 J4 => p_Me_put j2 r5 (fun I6 J7 => post I6 J7) I3 J4) I J) (fun k => exc k I J) I J) (fun k => exc k I J) I J) (fun k => exc k I J) I J
abbrev rm_TC_send : Room := { frames := 7, cells := 1, slots := 6, locals := 103 }
def p_TC_speak (p1 : Int32) (p2 : Int32) (post : SI → SJ → Prop) (exc : Nat → SI → SJ → Prop) (I : SI) (J : SJ) : Prop :=
  pn_TC_needIndex p1 (8 : Int32) (∃ j1, p1 = nI j1 ∧ j1 < 8 ∧ ∀ I2, I2 = xu I (14 + j1) 5 (p2 &&& (524287 : Int32)) → post I2 J) (fun k => exc k I J) I J
abbrev rm_TC_speak : Room := { frames := 7, cells := 1, slots := 6, locals := 103 }
def p_TC_draw (p1 : Int32) (p2 : Int32) (post : SI → SJ → Prop) (exc : Nat → SI → SJ → Prop) (I : SI) (J : SJ) : Prop :=
  pn_TC_needIndex p1 (8 : Int32) (((p2 < (0) → exc 3 I J) ∧ (¬ p2 < (0) → ((p2 ≤ (15 : Int32) → ∃ j1, p1 = nI j1 ∧ j1 < 8 ∧ (((8 : Int32) ≤ I (14 + j1) 3 → pp_Mo_addDraw j1 p2 (fun r2 => ((¬ r2 = (0) → post I J) ∧ (r2 = (0) → exc 2 I J))) I J) ∧ (¬ (8 : Int32) ≤ I (14 + j1) 3 → p_Mo_addDraw j1 p2 (fun r6 I4 J5 => ((¬ r6 = (0) → post I4 J5) ∧ (r6 = (0) → False))) I J))) ∧ (¬ p2 ≤ (15 : Int32) → exc 3 I J))))) (fun k => exc k I J) I J
abbrev rm_TC_draw : Room := { frames := 7, cells := 1, slots := 6, locals := 103 }
def p_TC_fault (p1 : Int32) (p2 : Int64) (post : SI → SJ → Prop) (exc : Nat → SI → SJ → Prop) (I : SI) (J : SJ) : Prop :=
  pn_TC_needIndex p1 (11 : Int32) (∃ j1, p1 = nI j1 ∧ j1 < 11 ∧ ∀ J2, J2 = xv J (13) j1 (p2 &&& (18014398509481983 : Int64)) → post I J2) (fun k => exc k I J) I J
abbrev rm_TC_fault : Room := { frames := 7, cells := 1, slots := 6, locals := 103 }
def p_TC_tick_88 (p1 : Int32) (post : Int32 → SI → SJ → Prop) (exc : Nat → SI → SJ → Prop) (k34 : Int32 → SI → SJ → Prop) (v2 : Int32) (I : SI) (J : SJ) : Prop :=
  ∀ I6, I6 = xu I (0) 4 ((I 0 4) + (1 : Int32)) → ∀ x7, x7 = v2 + (1 : Int32) → k34 x7 I6 J
def p_TC_tick_74 (p1 : Int32) (post : Int32 → SI → SJ → Prop) (exc : Nat → SI → SJ → Prop) (k34 : Int32 → SI → SJ → Prop) (v2 : Int32) (v3 : Int32) (v4 : Int32) (I : SI) (J : SJ) : Prop :=
  ((¬ v3 = (3 : Int32) → p_TC_tick_88 p1 post exc k34 v2 I J) ∧ (v3 = (3 : Int32) → p_Sw_endLongTurns v4 (fun I8 J9 => p_TC_tick_88 p1 post exc k34 v2 I8 J9) I J))
def p_TC_tick_L34 (p1 : Int32) (post : Int32 → SI → SJ → Prop) (exc : Nat → SI → SJ → Prop) : Nat → Int32 → SI → SJ → Prop
  | 0, _, _, _ => False
  | n + 1, v2, I, J => ((p1 ≤ v2 → post (I 0 4) I J) ∧ (¬ p1 ≤ v2 → ∀ x2, x2 = xrm (I 0 4) (4 : Int32) → ∀ x3, x3 = (I 0 4) / (4 : Int32) → ((¬ x2 = (0) → p_TC_runTraffic x2 x3 (fun I4 J5 => p_TC_tick_74 p1 post exc (p_TC_tick_L34 p1 post exc n) v2 x2 x3 I4 J5) I J) ∧ (x2 = (0) → p_TC_runControl x3 (fun I11 J12 => p_TC_tick_74 p1 post exc (p_TC_tick_L34 p1 post exc n) v2 x2 x3 I11 J12) I J))))
def p_TC_tick (p1 : Int32) (post : Int32 → SI → SJ → Prop) (exc : Nat → SI → SJ → Prop) (I : SI) (J : SJ) : Prop :=
  ((p1 < (0) → exc 3 I J) ∧ (¬ p1 < (0) → (((200 : Int32) < p1 → exc 3 I J) ∧ (¬ (200 : Int32) < p1 → ((p1 ≤ ((1000000000 : Int32) - (I 0 4)) → ∀ x1, x1 = (0 : Int32) → ∃ n15, p_TC_tick_L34 p1 post exc n15 x1 I J) ∧ (¬ p1 ≤ ((1000000000 : Int32) - (I 0 4)) → exc 3 I J))))))
abbrev rm_TC_tick : Room := { frames := 6, cells := 1, slots := 6, locals := 165 }
set_option maxHeartbeats 4000000 in
set_option maxRecDepth 100000 in
theorem c_TC_keys (l : Launch) (hfl : l.flags = pinnedFlags ++ [noTraceFlag]) (D : va_G) (κ : Nat → ClassId) {Θ : Nat → Nat} (hΘ : xJ 52 Θ) (sz : Nat) (p1 : Int32) (p2 : Int32) (p3 : Int32) (I : SI) (J : SJ) (post : SI → SJ → Prop) (exc : Nat → SI → SJ → Prop) (h : p_TC_keys p1 p2 p3 post exc I J) : MetX l y_TC_keys WS rm_TC_keys (va_Pc [.ref (Θ (0)), .int p1, .int p2, .int p3] (xPX D clA (tysA κ) 52 Θ (eC Θ κ) sz I J)) (xQx D clA 52 Θ (eC Θ κ) sz (fun v I J => v = none ∧ post I J) exc) := by
  refine xMetX (cc := b_TC_keys) (maxL := 4) (ret := none) (by decide) q_TC_keys.1 ?_
  intro p e s m args below meth c s₁ B hml hno hv
  obtain ⟨hargs, ⟨hsz, hP, hK, hN, hG⟩, hsz2, hT⟩ := hv
  have hx := B.exec
  have hb := B.bytes
  have hr := B.returns
  have hlocks := B.notSynchronized
  have hts := atoms_spec (ws := WS) B.pre
  have hown : s.vm.findClass R_TC = some m.cls := findClass_of_methodNamed B.named
  have C : xC p m c b_TC_keys 4 s args R_TC D clA (tysA κ) 52 Θ sz := ⟨⟨hx, hb, hml, hown, hts⟩, hK, hN, hG, hsz⟩
  have hS : va_S (xA 52 Θ sz) s.heap s.heap [] := va_S.rf
  have hE := lg_entry_eq m [.ref (Θ (0)), .int p1, .int p2, .int p3] 4
  rw [← hargs] at hE
  rw [hE]
  have hl := lv_entry [.ref (Θ (0)), .int p1, .int p2, .int p3] (n := 4) (Nat.le_of_ble_eq_true rfl)
  generalize (lg_sl [.ref (Θ (0)), .int p1, .int p2, .int p3] ++ List.replicate (4 - (lg_sl [.ref (Θ (0)), .int p1, .int p2, .int p3]).length) Slot.unset).toArray = ls at hl ⊢
  have hl : lv_has ls 4 [(0, .ref (Θ (0))), (1, .int p1), (2, .int p2), (3, .int p3)] := hl
  unfold p_TC_keys at h
  refine lv_iload_n hx hb d_TC_keys_0 rfl (lv_at hl 1 rfl) ?_
  refine lv_bipush (v := (8 : Int32)) hx hb d_TC_keys_1 (by decide) ?_
  refine x_callN C hT hsz2 hno hlocks hP (cn_TC_needIndex l hfl D κ hΘ sz p1 (8 : Int32) I J _ _ h) q_TC_needIndex k_339 k_338 (Nat.le_of_ble_eq_true rfl) (Nat.le_of_ble_eq_true rfl) ⟨Nat.le_of_ble_eq_true rfl, Nat.le_of_ble_eq_true rfl⟩ rfl hl.1 rfl (Nat.le_of_ble_eq_true rfl) d_TC_keys_3 (fun _ h => h) (fun h => ?_)
  refine lv_aload_n hx hb d_TC_keys_6 rfl (lv_at hl 0 rfl) ?_
  refine gfC_TC_25 C hP d_TC_keys_7 ?_
  refine lv_iload_n hx hb d_TC_keys_10 rfl (lv_at hl 1 rfl) ?_
  obtain ⟨j1, ej1, h_j1, h⟩ := h
  refine x_aald hx hb hK hP (12) 3 (Nat.le_of_ble_eq_true rfl) eC_mobiles rfl ej1 h_j1 (by decide) d_TC_keys_11 ?_
  refine lv_iload_n hx hb d_TC_keys_12 rfl (lv_at hl 2 rfl) ?_
  refine pfC_TC_44 C hΘ hP hS h_j1 d_TC_keys_13 (fun H locs hP hS => ?_)
  obtain ⟨I2, eI2⟩ : ∃ y, y = xu I (14 + j1) 4 p2 := ⟨_, rfl⟩
  have hP : va_P D clA (xw 52 Θ (eC Θ κ) I2 J) H := by rw [eI2]; exact hP
  have h := h I2 eI2
  refine lv_aload_n hx hb d_TC_keys_16 rfl (lv_at hl 0 rfl) ?_
  refine gfC_TC_19 C hP d_TC_keys_17 ?_
  refine gfC_TC_47 C hP d_TC_keys_20 ?_
  refine lv_iload_n hx hb d_TC_keys_23 rfl (lv_at hl 1 rfl) ?_
  refine lv_iload_n hx hb d_TC_keys_24 rfl (lv_at hl 3 rfl) ?_
  obtain ⟨j3, ej3, h_j3, h⟩ := h
  refine x_iast hx hb hK hΘ hP hS (7) 0 (Nat.le_of_ble_eq_true rfl) eC_keys rfl ej3 h_j3 (by decide) d_TC_keys_25 (fun H locs hP hS => ?_)
  obtain ⟨I4, eI4⟩ : ∃ y, y = xu I2 (7) j3 p3 := ⟨_, rfl⟩
  have hP : va_P D clA (xw 52 Θ (eC Θ κ) I4 J) H := by rw [eI4]; exact hP
  have h := h I4 eI4
  exact x_vretX hx hb hr hlocks hP hS h d_TC_keys_26
set_option maxHeartbeats 4000000 in
set_option maxRecDepth 100000 in
theorem c_TC_group (l : Launch) (hfl : l.flags = pinnedFlags ++ [noTraceFlag]) (D : va_G) (κ : Nat → ClassId) {Θ : Nat → Nat} (hΘ : xJ 52 Θ) (sz : Nat) (p1 : Int32) (p2 : Int32) (I : SI) (J : SJ) (post : SI → SJ → Prop) (exc : Nat → SI → SJ → Prop) (h : p_TC_group p1 p2 post exc I J) : MetX l y_TC_group WS rm_TC_group (va_Pc [.ref (Θ (0)), .int p1, .int p2] (xPX D clA (tysA κ) 52 Θ (eC Θ κ) sz I J)) (xQx D clA 52 Θ (eC Θ κ) sz (fun v I J => v = none ∧ post I J) exc) := by
  refine xMetX (cc := b_TC_group) (maxL := 3) (ret := none) (by decide) q_TC_group.1 ?_
  intro p e s m args below meth c s₁ B hml hno hv
  obtain ⟨hargs, ⟨hsz, hP, hK, hN, hG⟩, hsz2, hT⟩ := hv
  have hx := B.exec
  have hb := B.bytes
  have hr := B.returns
  have hlocks := B.notSynchronized
  have hts := atoms_spec (ws := WS) B.pre
  have hown : s.vm.findClass R_TC = some m.cls := findClass_of_methodNamed B.named
  have C : xC p m c b_TC_group 3 s args R_TC D clA (tysA κ) 52 Θ sz := ⟨⟨hx, hb, hml, hown, hts⟩, hK, hN, hG, hsz⟩
  have hS : va_S (xA 52 Θ sz) s.heap s.heap [] := va_S.rf
  have hE := lg_entry_eq m [.ref (Θ (0)), .int p1, .int p2] 3
  rw [← hargs] at hE
  rw [hE]
  have hl := lv_entry [.ref (Θ (0)), .int p1, .int p2] (n := 3) (Nat.le_of_ble_eq_true rfl)
  generalize (lg_sl [.ref (Θ (0)), .int p1, .int p2] ++ List.replicate (3 - (lg_sl [.ref (Θ (0)), .int p1, .int p2]).length) Slot.unset).toArray = ls at hl ⊢
  have hl : lv_has ls 3 [(0, .ref (Θ (0))), (1, .int p1), (2, .int p2)] := hl
  unfold p_TC_group at h
  refine lv_iload_n hx hb d_TC_group_0 rfl (lv_at hl 1 rfl) ?_
  refine lv_iconst (v := (4 : Int32)) hx hb d_TC_group_1 (by decide) ?_
  refine x_callN C hT hsz2 hno hlocks hP (cn_TC_needIndex l hfl D κ hΘ sz p1 (4 : Int32) I J _ _ h) q_TC_needIndex k_339 k_338 (Nat.le_of_ble_eq_true rfl) (Nat.le_of_ble_eq_true rfl) ⟨Nat.le_of_ble_eq_true rfl, Nat.le_of_ble_eq_true rfl⟩ rfl hl.1 rfl (Nat.le_of_ble_eq_true rfl) d_TC_group_2 (fun _ h => h) (fun h => ?_)
  refine lv_aload_n hx hb d_TC_group_5 rfl (lv_at hl 0 rfl) ?_
  refine gfC_TC_19 C hP d_TC_group_6 ?_
  refine gfC_TC_51 C hP d_TC_group_9 ?_
  refine lv_iload_n hx hb d_TC_group_12 rfl (lv_at hl 1 rfl) ?_
  obtain ⟨j1, ej1, h_j1, h⟩ := h
  refine x_aald hx hb hK hP (10) 4 (Nat.le_of_ble_eq_true rfl) eC_groups rfl ej1 h_j1 (by decide) d_TC_group_13 ?_
  refine lv_iload_n hx hb d_TC_group_14 rfl (lv_at hl 2 rfl) ?_
  refine pfC_TC_55 C hΘ hP hS h_j1 d_TC_group_15 (fun H locs hP hS => ?_)
  obtain ⟨I2, eI2⟩ : ∃ y, y = xu I (38 + j1) 2 p2 := ⟨_, rfl⟩
  have hP : va_P D clA (xw 52 Θ (eC Θ κ) I2 J) H := by rw [eI2]; exact hP
  have h := h I2 eI2
  exact x_vretX hx hb hr hlocks hP hS h d_TC_group_18
set_option maxHeartbeats 4000000 in
set_option maxRecDepth 100000 in
theorem c_TC_member (l : Launch) (hfl : l.flags = pinnedFlags ++ [noTraceFlag]) (D : va_G) (κ : Nat → ClassId) {Θ : Nat → Nat} (hΘ : xJ 52 Θ) (sz : Nat) (p1 : Int32) (p2 : Int32) (I : SI) (J : SJ) (post : SI → SJ → Prop) (exc : Nat → SI → SJ → Prop) (h : p_TC_member p1 p2 post exc I J) : MetX l y_TC_member WS rm_TC_member (va_Pc [.ref (Θ (0)), .int p1, .int p2] (xPX D clA (tysA κ) 52 Θ (eC Θ κ) sz I J)) (xQx D clA 52 Θ (eC Θ κ) sz (fun v I J => v = none ∧ post I J) exc) := by
  refine xMetX (cc := b_TC_member) (maxL := 3) (ret := none) (by decide) q_TC_member.1 ?_
  intro p e s m args below meth c s₁ B hml hno hv
  obtain ⟨hargs, ⟨hsz, hP, hK, hN, hG⟩, hsz2, hT⟩ := hv
  have hx := B.exec
  have hb := B.bytes
  have hr := B.returns
  have hlocks := B.notSynchronized
  have hts := atoms_spec (ws := WS) B.pre
  have hown : s.vm.findClass R_TC = some m.cls := findClass_of_methodNamed B.named
  have C : xC p m c b_TC_member 3 s args R_TC D clA (tysA κ) 52 Θ sz := ⟨⟨hx, hb, hml, hown, hts⟩, hK, hN, hG, hsz⟩
  have hS : va_S (xA 52 Θ sz) s.heap s.heap [] := va_S.rf
  have hE := lg_entry_eq m [.ref (Θ (0)), .int p1, .int p2] 3
  rw [← hargs] at hE
  rw [hE]
  have hl := lv_entry [.ref (Θ (0)), .int p1, .int p2] (n := 3) (Nat.le_of_ble_eq_true rfl)
  generalize (lg_sl [.ref (Θ (0)), .int p1, .int p2] ++ List.replicate (3 - (lg_sl [.ref (Θ (0)), .int p1, .int p2]).length) Slot.unset).toArray = ls at hl ⊢
  have hl : lv_has ls 3 [(0, .ref (Θ (0))), (1, .int p1), (2, .int p2)] := hl
  unfold p_TC_member at h
  refine lv_iload_n hx hb d_TC_member_0 rfl (lv_at hl 1 rfl) ?_
  refine lv_bipush (v := (8 : Int32)) hx hb d_TC_member_1 (by decide) ?_
  refine x_callN C hT hsz2 hno hlocks hP (cn_TC_needIndex l hfl D κ hΘ sz p1 (8 : Int32) I J _ _ h) q_TC_needIndex k_339 k_338 (Nat.le_of_ble_eq_true rfl) (Nat.le_of_ble_eq_true rfl) ⟨Nat.le_of_ble_eq_true rfl, Nat.le_of_ble_eq_true rfl⟩ rfl hl.1 rfl (Nat.le_of_ble_eq_true rfl) d_TC_member_3 (fun _ h => h) (fun h => ?_)
  refine lv_aload_n hx hb d_TC_member_6 rfl (lv_at hl 0 rfl) ?_
  refine gfC_TC_19 C hP d_TC_member_7 ?_
  refine gfC_TC_58 C hP d_TC_member_10 ?_
  refine lv_iload_n hx hb d_TC_member_13 rfl (lv_at hl 1 rfl) ?_
  refine lv_iload_n hx hb d_TC_member_14 rfl (lv_at hl 2 rfl) ?_
  refine lv_bipush (v := (15 : Int32)) hx hb d_TC_member_15 (by decide) ?_
  refine lv_iand hx hb d_TC_member_17 ?_
  obtain ⟨j1, ej1, h_j1, h⟩ := h
  refine x_iast hx hb hK hΘ hP hS (9) 0 (Nat.le_of_ble_eq_true rfl) eC_memberships rfl ej1 h_j1 (by decide) d_TC_member_18 (fun H locs hP hS => ?_)
  obtain ⟨I2, eI2⟩ : ∃ y, y = xu I (9) j1 (p2 &&& (15 : Int32)) := ⟨_, rfl⟩
  have hP : va_P D clA (xw 52 Θ (eC Θ κ) I2 J) H := by rw [eI2]; exact hP
  have h := h I2 eI2
  exact x_vretX hx hb hr hlocks hP hS h d_TC_member_19
set_option maxHeartbeats 4000000 in
set_option maxRecDepth 100000 in
theorem c_TC_move (l : Launch) (hfl : l.flags = pinnedFlags ++ [noTraceFlag]) (D : va_G) (κ : Nat → ClassId) {Θ : Nat → Nat} (hΘ : xJ 52 Θ) (sz : Nat) (p1 : Int32) (p2 : Int32) (I : SI) (J : SJ) (post : SI → SJ → Prop) (exc : Nat → SI → SJ → Prop) (h : p_TC_move p1 p2 post exc I J) : MetX l y_TC_move WS rm_TC_move (va_Pc [.ref (Θ (0)), .int p1, .int p2] (xPX D clA (tysA κ) 52 Θ (eC Θ κ) sz I J)) (xQx D clA 52 Θ (eC Θ κ) sz (fun v I J => v = none ∧ post I J) exc) := by
  refine xMetX (cc := b_TC_move) (maxL := 4) (ret := none) (by decide) q_TC_move.1 ?_
  intro p e s m args below meth c s₁ B hml hno hv
  obtain ⟨hargs, ⟨hsz, hP, hK, hN, hG⟩, hsz2, hT⟩ := hv
  have hx := B.exec
  have hb := B.bytes
  have hr := B.returns
  have hlocks := B.notSynchronized
  have hts := atoms_spec (ws := WS) B.pre
  have hown : s.vm.findClass R_TC = some m.cls := findClass_of_methodNamed B.named
  have C : xC p m c b_TC_move 4 s args R_TC D clA (tysA κ) 52 Θ sz := ⟨⟨hx, hb, hml, hown, hts⟩, hK, hN, hG, hsz⟩
  have hS : va_S (xA 52 Θ sz) s.heap s.heap [] := va_S.rf
  have hE := lg_entry_eq m [.ref (Θ (0)), .int p1, .int p2] 4
  rw [← hargs] at hE
  rw [hE]
  have hl := lv_entry [.ref (Θ (0)), .int p1, .int p2] (n := 4) (Nat.le_of_ble_eq_true rfl)
  generalize (lg_sl [.ref (Θ (0)), .int p1, .int p2] ++ List.replicate (4 - (lg_sl [.ref (Θ (0)), .int p1, .int p2]).length) Slot.unset).toArray = ls at hl ⊢
  have hl : lv_has ls 4 [(0, .ref (Θ (0))), (1, .int p1), (2, .int p2)] := hl
  unfold p_TC_move at h
  refine lv_iload_n hx hb d_TC_move_0 rfl (lv_at hl 1 rfl) ?_
  refine lv_bipush (v := (8 : Int32)) hx hb d_TC_move_1 (by decide) ?_
  refine x_callN C hT hsz2 hno hlocks hP (cn_TC_needIndex l hfl D κ hΘ sz p1 (8 : Int32) I J _ _ h) q_TC_needIndex k_339 k_338 (Nat.le_of_ble_eq_true rfl) (Nat.le_of_ble_eq_true rfl) ⟨Nat.le_of_ble_eq_true rfl, Nat.le_of_ble_eq_true rfl⟩ rfl hl.1 rfl (Nat.le_of_ble_eq_true rfl) d_TC_move_3 (fun _ h => h) (fun h => ?_)
  refine lv_iload_n hx hb d_TC_move_6 rfl (lv_at hl 2 rfl) ?_
  refine lv_iconst (v := (-1 : Int32)) hx hb d_TC_move_7 (by decide) ?_
  refine lv_icmp_eq hx hb d_TC_move_8 (tgt := 16) rfl (fun hc15 => ?_) (fun hc15 => ?_)
  · have h := h.1 hc15
    refine lv_aload_n hx hb d_TC_move_16 rfl (lv_at hl 0 rfl) ?_
    refine gfC_TC_25 C hP d_TC_move_17 ?_
    refine lv_iload_n hx hb d_TC_move_20 rfl (lv_at hl 1 rfl) ?_
    obtain ⟨j1, ej1, h_j1, h⟩ := h
    refine x_aald hx hb hK hP (12) 3 (Nat.le_of_ble_eq_true rfl) eC_mobiles rfl ej1 h_j1 (by decide) d_TC_move_21 ?_
    refine lv_astore_n hx hb d_TC_move_22 rfl hl (Nat.le_of_ble_eq_true rfl) (lv' := [(3, .ref (Θ (14 + j1))), (0, .ref (Θ (0))), (1, .int p1), (2, .int p2)]) rfl (fun ls hl => ?_)
    refine lv_aload_n hx hb d_TC_move_23 rfl (lv_at hl 0 rfl) ?_
    refine lv_iload_n hx hb d_TC_move_24 rfl (lv_at hl 3 rfl) ?_
    refine pfC_TC_61 C hΘ hP hS h_j1 d_TC_move_25 (fun H locs hP hS => ?_)
    obtain ⟨I2, eI2⟩ : ∃ y, y = xu I (14 + j1) 6 p2 := ⟨_, rfl⟩
    have hP : va_P D clA (xw 52 Θ (eC Θ κ) I2 J) H := by rw [eI2]; exact hP
    have h := h I2 eI2
    refine lv_aload_n hx hb d_TC_move_28 rfl (lv_at hl 0 rfl) ?_
    refine gfC_TC_64 C hP h_j1 d_TC_move_29 ?_
    refine x_gv (x_V C hP hS (xlt h_j1 rfl) ((eC_Me h_j1) _ _) rfl (c_Me_drop l D κ hΘ sz j1 h_j1 I2 J _ h) q_Me_drop k_431 k_432 k_430 rfl rfl ⟨Nat.le_of_ble_eq_true rfl, Nat.le_of_ble_eq_true rfl⟩ rfl hl.1 rfl (Nat.le_of_ble_eq_true rfl) d_TC_move_32) hS (fun I3 J4 h H locs hP hS => ?_)
    refine lv_aload_n hx hb d_TC_move_35 rfl (lv_at hl 0 rfl) ?_
    refine lv_iconst (v := (-1 : Int32)) hx hb d_TC_move_36 (by decide) ?_
    refine pfC_TC_73 C hΘ hP hS h_j1 d_TC_move_37 (fun H locs hP hS => ?_)
    obtain ⟨I5, eI5⟩ : ∃ y, y = xu I3 (14 + j1) 7 (-1 : Int32) := ⟨_, rfl⟩
    have hP : va_P D clA (xw 52 Θ (eC Θ κ) I5 J4) H := by rw [eI5]; exact hP
    have h := h I5 eI5
    refine lv_aload_n hx hb d_TC_move_40 rfl (lv_at hl 0 rfl) ?_
    refine x_gv (x_V C hP hS (xlt h_j1 rfl) ((eC_Mo h_j1) _ _) rfl (c_Mo_turnIdle l D κ hΘ sz j1 h_j1 I5 J4 _ h) q_Mo_turnIdle k_439 k_440 k_438 rfl rfl ⟨Nat.le_of_ble_eq_true rfl, Nat.le_of_ble_eq_true rfl⟩ rfl hl.1 rfl (Nat.le_of_ble_eq_true rfl) d_TC_move_41) hS (fun I6 J7 h H locs hP hS => ?_)
    exact x_vretX hx hb hr hlocks hP hS h d_TC_move_44
  · have h := h.2 hc15
    refine lv_iload_n hx hb d_TC_move_11 rfl (lv_at hl 2 rfl) ?_
    refine lv_iconst (v := (3 : Int32)) hx hb d_TC_move_12 (by decide) ?_
    refine x_callN C hT hsz2 hno hlocks hP (cn_TC_needIndex l hfl D κ hΘ sz p2 (3 : Int32) I J _ _ h) q_TC_needIndex k_339 k_338 (Nat.le_of_ble_eq_true rfl) (Nat.le_of_ble_eq_true rfl) ⟨Nat.le_of_ble_eq_true rfl, Nat.le_of_ble_eq_true rfl⟩ rfl hl.1 rfl (Nat.le_of_ble_eq_true rfl) d_TC_move_13 (fun _ h => h) (fun h => ?_)
    refine lv_aload_n hx hb d_TC_move_16 rfl (lv_at hl 0 rfl) ?_
    refine gfC_TC_25 C hP d_TC_move_17 ?_
    refine lv_iload_n hx hb d_TC_move_20 rfl (lv_at hl 1 rfl) ?_
    obtain ⟨j8, ej8, h_j8, h⟩ := h
    refine x_aald hx hb hK hP (12) 3 (Nat.le_of_ble_eq_true rfl) eC_mobiles rfl ej8 h_j8 (by decide) d_TC_move_21 ?_
    refine lv_astore_n hx hb d_TC_move_22 rfl hl (Nat.le_of_ble_eq_true rfl) (lv' := [(3, .ref (Θ (14 + j8))), (0, .ref (Θ (0))), (1, .int p1), (2, .int p2)]) rfl (fun ls hl => ?_)
    refine lv_aload_n hx hb d_TC_move_23 rfl (lv_at hl 0 rfl) ?_
    refine lv_iload_n hx hb d_TC_move_24 rfl (lv_at hl 3 rfl) ?_
    refine pfC_TC_61 C hΘ hP hS h_j8 d_TC_move_25 (fun H locs hP hS => ?_)
    obtain ⟨I9, eI9⟩ : ∃ y, y = xu I (14 + j8) 6 p2 := ⟨_, rfl⟩
    have hP : va_P D clA (xw 52 Θ (eC Θ κ) I9 J) H := by rw [eI9]; exact hP
    have h := h I9 eI9
    refine lv_aload_n hx hb d_TC_move_28 rfl (lv_at hl 0 rfl) ?_
    refine gfC_TC_64 C hP h_j8 d_TC_move_29 ?_
    refine x_gv (x_V C hP hS (xlt h_j8 rfl) ((eC_Me h_j8) _ _) rfl (c_Me_drop l D κ hΘ sz j8 h_j8 I9 J _ h) q_Me_drop k_431 k_432 k_430 rfl rfl ⟨Nat.le_of_ble_eq_true rfl, Nat.le_of_ble_eq_true rfl⟩ rfl hl.1 rfl (Nat.le_of_ble_eq_true rfl) d_TC_move_32) hS (fun I10 J11 h H locs hP hS => ?_)
    refine lv_aload_n hx hb d_TC_move_35 rfl (lv_at hl 0 rfl) ?_
    refine lv_iconst (v := (-1 : Int32)) hx hb d_TC_move_36 (by decide) ?_
    refine pfC_TC_73 C hΘ hP hS h_j8 d_TC_move_37 (fun H locs hP hS => ?_)
    obtain ⟨I12, eI12⟩ : ∃ y, y = xu I10 (14 + j8) 7 (-1 : Int32) := ⟨_, rfl⟩
    have hP : va_P D clA (xw 52 Θ (eC Θ κ) I12 J11) H := by rw [eI12]; exact hP
    have h := h I12 eI12
    refine lv_aload_n hx hb d_TC_move_40 rfl (lv_at hl 0 rfl) ?_
    refine x_gv (x_V C hP hS (xlt h_j8 rfl) ((eC_Mo h_j8) _ _) rfl (c_Mo_turnIdle l D κ hΘ sz j8 h_j8 I12 J11 _ h) q_Mo_turnIdle k_439 k_440 k_438 rfl rfl ⟨Nat.le_of_ble_eq_true rfl, Nat.le_of_ble_eq_true rfl⟩ rfl hl.1 rfl (Nat.le_of_ble_eq_true rfl) d_TC_move_41) hS (fun I13 J14 h H locs hP hS => ?_)
    exact x_vretX hx hb hr hlocks hP hS h d_TC_move_44
set_option maxHeartbeats 4000000 in
set_option maxRecDepth 100000 in
theorem c_TC_register (l : Launch) (hfl : l.flags = pinnedFlags ++ [noTraceFlag]) (D : va_G) (κ : Nat → ClassId) {Θ : Nat → Nat} (hΘ : xJ 52 Θ) (sz : Nat) (p1 : Int32) (I : SI) (J : SJ) (post : SI → SJ → Prop) (exc : Nat → SI → SJ → Prop) (h : p_TC_register p1 post exc I J) : MetX l y_TC_register WS rm_TC_register (va_Pc [.ref (Θ (0)), .int p1] (xPX D clA (tysA κ) 52 Θ (eC Θ κ) sz I J)) (xQx D clA 52 Θ (eC Θ κ) sz (fun v I J => v = none ∧ post I J) exc) := by
  refine xMetX (cc := b_TC_register) (maxL := 2) (ret := none) (by decide) q_TC_register.1 ?_
  intro p e s m args below meth c s₁ B hml hno hv
  obtain ⟨hargs, ⟨hsz, hP, hK, hN, hG⟩, hsz2, hT⟩ := hv
  have hx := B.exec
  have hb := B.bytes
  have hr := B.returns
  have hlocks := B.notSynchronized
  have hts := atoms_spec (ws := WS) B.pre
  have hown : s.vm.findClass R_TC = some m.cls := findClass_of_methodNamed B.named
  have C : xC p m c b_TC_register 2 s args R_TC D clA (tysA κ) 52 Θ sz := ⟨⟨hx, hb, hml, hown, hts⟩, hK, hN, hG, hsz⟩
  have hS : va_S (xA 52 Θ sz) s.heap s.heap [] := va_S.rf
  have hE := lg_entry_eq m [.ref (Θ (0)), .int p1] 2
  rw [← hargs] at hE
  rw [hE]
  have hl := lv_entry [.ref (Θ (0)), .int p1] (n := 2) (Nat.le_of_ble_eq_true rfl)
  generalize (lg_sl [.ref (Θ (0)), .int p1] ++ List.replicate (2 - (lg_sl [.ref (Θ (0)), .int p1]).length) Slot.unset).toArray = ls at hl ⊢
  have hl : lv_has ls 2 [(0, .ref (Θ (0))), (1, .int p1)] := hl
  unfold p_TC_register at h
  refine lv_iload_n hx hb d_TC_register_0 rfl (lv_at hl 1 rfl) ?_
  refine lv_bipush (v := (8 : Int32)) hx hb d_TC_register_1 (by decide) ?_
  refine x_callN C hT hsz2 hno hlocks hP (cn_TC_needIndex l hfl D κ hΘ sz p1 (8 : Int32) I J _ _ h) q_TC_needIndex k_339 k_338 (Nat.le_of_ble_eq_true rfl) (Nat.le_of_ble_eq_true rfl) ⟨Nat.le_of_ble_eq_true rfl, Nat.le_of_ble_eq_true rfl⟩ rfl hl.1 rfl (Nat.le_of_ble_eq_true rfl) d_TC_register_3 (fun _ h => h) (fun h => ?_)
  refine lv_aload_n hx hb d_TC_register_6 rfl (lv_at hl 0 rfl) ?_
  refine gfC_TC_25 C hP d_TC_register_7 ?_
  refine lv_iload_n hx hb d_TC_register_10 rfl (lv_at hl 1 rfl) ?_
  obtain ⟨j1, ej1, h_j1, h⟩ := h
  refine x_aald hx hb hK hP (12) 3 (Nat.le_of_ble_eq_true rfl) eC_mobiles rfl ej1 h_j1 (by decide) d_TC_register_11 ?_
  refine x_callN C hT hsz2 hno hlocks hP (cn_TC_needRoomForMessage l hfl D κ hΘ sz j1 h_j1 I J _ _ h) q_TC_needRoomForMessage k_455 k_454 (Nat.le_of_ble_eq_true rfl) (Nat.le_of_ble_eq_true rfl) ⟨Nat.le_of_ble_eq_true rfl, Nat.le_of_ble_eq_true rfl⟩ rfl hl.1 rfl (Nat.le_of_ble_eq_true rfl) d_TC_register_12 (fun _ h => h) (fun h => ?_)
  refine lv_aload_n hx hb d_TC_register_15 rfl (lv_at hl 0 rfl) ?_
  refine gfC_TC_25 C hP d_TC_register_16 ?_
  refine lv_iload_n hx hb d_TC_register_19 rfl (lv_at hl 1 rfl) ?_
  obtain ⟨j2, ej2, h_j2, h⟩ := h
  refine x_aald hx hb hK hP (12) 3 (Nat.le_of_ble_eq_true rfl) eC_mobiles rfl ej2 h_j2 (by decide) d_TC_register_20 ?_
  refine gfC_TC_64 C hP h_j2 d_TC_register_21 ?_
  refine lv_iconst (v := (1 : Int32)) hx hb d_TC_register_24 (by decide) ?_
  refine lv_iload_n hx hb d_TC_register_25 rfl (lv_at hl 1 rfl) ?_
  refine lv_iconst (v := (0 : Int32)) hx hb d_TC_register_26 (by decide) ?_
  refine lv_iconst (v := (0 : Int32)) hx hb d_TC_register_27 (by decide) ?_
  refine lv_iconst (v := (0 : Int32)) hx hb d_TC_register_28 (by decide) ?_
  refine x_gi (x_S C hP hS (c_Bk_of l D κ hΘ sz (1 : Int32) p1 (0 : Int32) (0 : Int32) (0 : Int32) I J _ h) q_Bk_of k_478 k_477 rfl rfl ⟨Nat.le_of_ble_eq_true rfl, Nat.le_of_ble_eq_true rfl⟩ rfl hl.1 rfl (Nat.le_of_ble_eq_true rfl) d_TC_register_29) hS (fun r5 I3 J4 h H locs hP hS => ?_)
  refine x_gv (x_V C hP hS (xlt h_j2 rfl) ((eC_Me h_j2) _ _) rfl (c_Me_put l D κ hΘ sz j2 h_j2 r5 I3 J4 _ h) q_Me_put k_435 k_436 k_480 rfl rfl ⟨Nat.le_of_ble_eq_true rfl, Nat.le_of_ble_eq_true rfl⟩ rfl hl.1 rfl (Nat.le_of_ble_eq_true rfl) d_TC_register_32) hS (fun I6 J7 h H locs hP hS => ?_)
  exact x_vretX hx hb hr hlocks hP hS h d_TC_register_35
set_option maxHeartbeats 4000000 in
set_option maxRecDepth 100000 in
theorem c_TC_press (l : Launch) (hfl : l.flags = pinnedFlags ++ [noTraceFlag]) (D : va_G) (κ : Nat → ClassId) {Θ : Nat → Nat} (hΘ : xJ 52 Θ) (sz : Nat) (p1 : Int32) (p2 : Int32) (p3 : Int32) (I : SI) (J : SJ) (post : SI → SJ → Prop) (exc : Nat → SI → SJ → Prop) (h : p_TC_press p1 p2 p3 post exc I J) : MetX l y_TC_press WS rm_TC_press (va_Pc [.ref (Θ (0)), .int p1, .int p2, .int p3] (xPX D clA (tysA κ) 52 Θ (eC Θ κ) sz I J)) (xQx D clA 52 Θ (eC Θ κ) sz (fun v I J => v = none ∧ post I J) exc) := by
  refine xMetX (cc := b_TC_press) (maxL := 4) (ret := none) (by decide) q_TC_press.1 ?_
  intro p e s m args below meth c s₁ B hml hno hv
  obtain ⟨hargs, ⟨hsz, hP, hK, hN, hG⟩, hsz2, hT⟩ := hv
  have hx := B.exec
  have hb := B.bytes
  have hr := B.returns
  have hlocks := B.notSynchronized
  have hts := atoms_spec (ws := WS) B.pre
  have hown : s.vm.findClass R_TC = some m.cls := findClass_of_methodNamed B.named
  have C : xC p m c b_TC_press 4 s args R_TC D clA (tysA κ) 52 Θ sz := ⟨⟨hx, hb, hml, hown, hts⟩, hK, hN, hG, hsz⟩
  have hS : va_S (xA 52 Θ sz) s.heap s.heap [] := va_S.rf
  have hE := lg_entry_eq m [.ref (Θ (0)), .int p1, .int p2, .int p3] 4
  rw [← hargs] at hE
  rw [hE]
  have hl := lv_entry [.ref (Θ (0)), .int p1, .int p2, .int p3] (n := 4) (Nat.le_of_ble_eq_true rfl)
  generalize (lg_sl [.ref (Θ (0)), .int p1, .int p2, .int p3] ++ List.replicate (4 - (lg_sl [.ref (Θ (0)), .int p1, .int p2, .int p3]).length) Slot.unset).toArray = ls at hl ⊢
  have hl : lv_has ls 4 [(0, .ref (Θ (0))), (1, .int p1), (2, .int p2), (3, .int p3)] := hl
  unfold p_TC_press at h
  refine lv_iload_n hx hb d_TC_press_0 rfl (lv_at hl 1 rfl) ?_
  refine lv_bipush (v := (8 : Int32)) hx hb d_TC_press_1 (by decide) ?_
  refine x_callN C hT hsz2 hno hlocks hP (cn_TC_needIndex l hfl D κ hΘ sz p1 (8 : Int32) I J _ _ h) q_TC_needIndex k_339 k_338 (Nat.le_of_ble_eq_true rfl) (Nat.le_of_ble_eq_true rfl) ⟨Nat.le_of_ble_eq_true rfl, Nat.le_of_ble_eq_true rfl⟩ rfl hl.1 rfl (Nat.le_of_ble_eq_true rfl) d_TC_press_3 (fun _ h => h) (fun h => ?_)
  refine lv_iload_n hx hb d_TC_press_6 rfl (lv_at hl 2 rfl) ?_
  refine lv_iconst (v := (4 : Int32)) hx hb d_TC_press_7 (by decide) ?_
  refine x_callN C hT hsz2 hno hlocks hP (cn_TC_needIndex l hfl D κ hΘ sz p2 (4 : Int32) I J _ _ h) q_TC_needIndex k_339 k_338 (Nat.le_of_ble_eq_true rfl) (Nat.le_of_ble_eq_true rfl) ⟨Nat.le_of_ble_eq_true rfl, Nat.le_of_ble_eq_true rfl⟩ rfl hl.1 rfl (Nat.le_of_ble_eq_true rfl) d_TC_press_8 (fun _ h => h) (fun h => ?_)
  refine lv_aload_n hx hb d_TC_press_11 rfl (lv_at hl 0 rfl) ?_
  refine gfC_TC_25 C hP d_TC_press_12 ?_
  refine lv_iload_n hx hb d_TC_press_15 rfl (lv_at hl 1 rfl) ?_
  obtain ⟨j1, ej1, h_j1, h⟩ := h
  refine x_aald hx hb hK hP (12) 3 (Nat.le_of_ble_eq_true rfl) eC_mobiles rfl ej1 h_j1 (by decide) d_TC_press_16 ?_
  refine x_callN C hT hsz2 hno hlocks hP (cn_TC_needRoomForMessage l hfl D κ hΘ sz j1 h_j1 I J _ _ h) q_TC_needRoomForMessage k_455 k_454 (Nat.le_of_ble_eq_true rfl) (Nat.le_of_ble_eq_true rfl) ⟨Nat.le_of_ble_eq_true rfl, Nat.le_of_ble_eq_true rfl⟩ rfl hl.1 rfl (Nat.le_of_ble_eq_true rfl) d_TC_press_17 (fun _ h => h) (fun h => ?_)
  refine lv_aload_n hx hb d_TC_press_20 rfl (lv_at hl 0 rfl) ?_
  refine gfC_TC_25 C hP d_TC_press_21 ?_
  refine lv_iload_n hx hb d_TC_press_24 rfl (lv_at hl 1 rfl) ?_
  obtain ⟨j2, ej2, h_j2, h⟩ := h
  refine x_aald hx hb hK hP (12) 3 (Nat.le_of_ble_eq_true rfl) eC_mobiles rfl ej2 h_j2 (by decide) d_TC_press_25 ?_
  refine gfC_TC_73 C hP h_j2 d_TC_press_26 ?_
  refine lv_iconst (v := (-1 : Int32)) hx hb d_TC_press_29 (by decide) ?_
  refine lv_icmp_eq hx hb d_TC_press_30 (tgt := 43) rfl (fun hc11 => ?_) (fun hc11 => ?_)
  · have h := h.1 hc11
    refine lv_aload_n hx hb d_TC_press_43 rfl (lv_at hl 0 rfl) ?_
    refine gfC_TC_25 C hP d_TC_press_44 ?_
    refine lv_iload_n hx hb d_TC_press_47 rfl (lv_at hl 1 rfl) ?_
    obtain ⟨j3, ej3, h_j3, h⟩ := h
    refine x_aald hx hb hK hP (12) 3 (Nat.le_of_ble_eq_true rfl) eC_mobiles rfl ej3 h_j3 (by decide) d_TC_press_48 ?_
    refine lv_iload_n hx hb d_TC_press_49 rfl (lv_at hl 2 rfl) ?_
    refine pfC_TC_73 C hΘ hP hS h_j3 d_TC_press_50 (fun H locs hP hS => ?_)
    obtain ⟨I4, eI4⟩ : ∃ y, y = xu I (14 + j3) 7 p2 := ⟨_, rfl⟩
    have hP : va_P D clA (xw 52 Θ (eC Θ κ) I4 J) H := by rw [eI4]; exact hP
    have h := h I4 eI4
    refine lv_aload_n hx hb d_TC_press_53 rfl (lv_at hl 0 rfl) ?_
    refine gfC_TC_25 C hP d_TC_press_54 ?_
    refine lv_iload_n hx hb d_TC_press_57 rfl (lv_at hl 1 rfl) ?_
    obtain ⟨j5, ej5, h_j5, h⟩ := h
    refine x_aald hx hb hK hP (12) 3 (Nat.le_of_ble_eq_true rfl) eC_mobiles rfl ej5 h_j5 (by decide) d_TC_press_58 ?_
    refine gfC_TC_64 C hP h_j5 d_TC_press_59 ?_
    refine lv_iconst (v := (2 : Int32)) hx hb d_TC_press_62 (by decide) ?_
    refine lv_iload_n hx hb d_TC_press_63 rfl (lv_at hl 1 rfl) ?_
    refine lv_iload_n hx hb d_TC_press_64 rfl (lv_at hl 2 rfl) ?_
    refine lv_iload_n hx hb d_TC_press_65 rfl (lv_at hl 3 rfl) ?_
    refine lv_iconst (v := (0 : Int32)) hx hb d_TC_press_66 (by decide) ?_
    refine x_gi (x_S C hP hS (c_Bk_of l D κ hΘ sz (2 : Int32) p1 p2 p3 (0 : Int32) I4 J _ h) q_Bk_of k_478 k_477 rfl rfl ⟨Nat.le_of_ble_eq_true rfl, Nat.le_of_ble_eq_true rfl⟩ rfl hl.1 rfl (Nat.le_of_ble_eq_true rfl) d_TC_press_67) hS (fun r8 I6 J7 h H locs hP hS => ?_)
    refine x_gv (x_V C hP hS (xlt h_j5 rfl) ((eC_Me h_j5) _ _) rfl (c_Me_put l D κ hΘ sz j5 h_j5 r8 I6 J7 _ h) q_Me_put k_435 k_436 k_480 rfl rfl ⟨Nat.le_of_ble_eq_true rfl, Nat.le_of_ble_eq_true rfl⟩ rfl hl.1 rfl (Nat.le_of_ble_eq_true rfl) d_TC_press_70) hS (fun I9 J10 h H locs hP hS => ?_)
    exact x_vretX hx hb hr hlocks hP hS h d_TC_press_73
  · have h := h.2 hc11
    exact x_throw (i1 := 94) (tx := "it presses for a group") hfl C hT hno hlocks 2 xOwn_2 (by decide +kernel) k_461 k_462 k_15 (by decide) hl.1 d_TC_press_33 d_TC_press_36 d_TC_press_37 d_TC_press_39 d_TC_press_42 (Nat.le_of_ble_eq_true rfl) (Nat.le_of_ble_eq_true rfl) (Nat.le_of_ble_eq_true rfl) (Nat.le_of_ble_eq_true rfl) (x_qx hP h)
set_option maxHeartbeats 4000000 in
set_option maxRecDepth 100000 in
theorem c_TC_release (l : Launch) (hfl : l.flags = pinnedFlags ++ [noTraceFlag]) (D : va_G) (κ : Nat → ClassId) {Θ : Nat → Nat} (hΘ : xJ 52 Θ) (sz : Nat) (p1 : Int32) (I : SI) (J : SJ) (post : SI → SJ → Prop) (exc : Nat → SI → SJ → Prop) (h : p_TC_release p1 post exc I J) : MetX l y_TC_release WS rm_TC_release (va_Pc [.ref (Θ (0)), .int p1] (xPX D clA (tysA κ) 52 Θ (eC Θ κ) sz I J)) (xQx D clA 52 Θ (eC Θ κ) sz (fun v I J => v = none ∧ post I J) exc) := by
  refine xMetX (cc := b_TC_release) (maxL := 2) (ret := none) (by decide) q_TC_release.1 ?_
  intro p e s m args below meth c s₁ B hml hno hv
  obtain ⟨hargs, ⟨hsz, hP, hK, hN, hG⟩, hsz2, hT⟩ := hv
  have hx := B.exec
  have hb := B.bytes
  have hr := B.returns
  have hlocks := B.notSynchronized
  have hts := atoms_spec (ws := WS) B.pre
  have hown : s.vm.findClass R_TC = some m.cls := findClass_of_methodNamed B.named
  have C : xC p m c b_TC_release 2 s args R_TC D clA (tysA κ) 52 Θ sz := ⟨⟨hx, hb, hml, hown, hts⟩, hK, hN, hG, hsz⟩
  have hS : va_S (xA 52 Θ sz) s.heap s.heap [] := va_S.rf
  have hE := lg_entry_eq m [.ref (Θ (0)), .int p1] 2
  rw [← hargs] at hE
  rw [hE]
  have hl := lv_entry [.ref (Θ (0)), .int p1] (n := 2) (Nat.le_of_ble_eq_true rfl)
  generalize (lg_sl [.ref (Θ (0)), .int p1] ++ List.replicate (2 - (lg_sl [.ref (Θ (0)), .int p1]).length) Slot.unset).toArray = ls at hl ⊢
  have hl : lv_has ls 2 [(0, .ref (Θ (0))), (1, .int p1)] := hl
  unfold p_TC_release at h
  refine lv_iload_n hx hb d_TC_release_0 rfl (lv_at hl 1 rfl) ?_
  refine lv_bipush (v := (8 : Int32)) hx hb d_TC_release_1 (by decide) ?_
  refine x_callN C hT hsz2 hno hlocks hP (cn_TC_needIndex l hfl D κ hΘ sz p1 (8 : Int32) I J _ _ h) q_TC_needIndex k_339 k_338 (Nat.le_of_ble_eq_true rfl) (Nat.le_of_ble_eq_true rfl) ⟨Nat.le_of_ble_eq_true rfl, Nat.le_of_ble_eq_true rfl⟩ rfl hl.1 rfl (Nat.le_of_ble_eq_true rfl) d_TC_release_3 (fun _ h => h) (fun h => ?_)
  refine lv_aload_n hx hb d_TC_release_6 rfl (lv_at hl 0 rfl) ?_
  refine gfC_TC_25 C hP d_TC_release_7 ?_
  refine lv_iload_n hx hb d_TC_release_10 rfl (lv_at hl 1 rfl) ?_
  obtain ⟨j1, ej1, h_j1, h⟩ := h
  refine x_aald hx hb hK hP (12) 3 (Nat.le_of_ble_eq_true rfl) eC_mobiles rfl ej1 h_j1 (by decide) d_TC_release_11 ?_
  refine lv_iconst (v := (-1 : Int32)) hx hb d_TC_release_12 (by decide) ?_
  refine pfC_TC_73 C hΘ hP hS h_j1 d_TC_release_13 (fun H locs hP hS => ?_)
  obtain ⟨I2, eI2⟩ : ∃ y, y = xu I (14 + j1) 7 (-1 : Int32) := ⟨_, rfl⟩
  have hP : va_P D clA (xw 52 Θ (eC Θ κ) I2 J) H := by rw [eI2]; exact hP
  have h := h I2 eI2
  refine lv_aload_n hx hb d_TC_release_16 rfl (lv_at hl 0 rfl) ?_
  refine gfC_TC_25 C hP d_TC_release_17 ?_
  refine lv_iload_n hx hb d_TC_release_20 rfl (lv_at hl 1 rfl) ?_
  obtain ⟨j3, ej3, h_j3, h⟩ := h
  refine x_aald hx hb hK hP (12) 3 (Nat.le_of_ble_eq_true rfl) eC_mobiles rfl ej3 h_j3 (by decide) d_TC_release_21 ?_
  refine gfC_TC_64 C hP h_j3 d_TC_release_22 ?_
  refine x_gi (x_V C hP hS (xlt h_j3 rfl) ((eC_Me h_j3) _ _) rfl (c_Me_kind l D κ hΘ sz j3 h_j3 I2 J _ h) q_Me_kind k_246 k_247 k_496 rfl rfl ⟨Nat.le_of_ble_eq_true rfl, Nat.le_of_ble_eq_true rfl⟩ rfl hl.1 rfl (Nat.le_of_ble_eq_true rfl) d_TC_release_25) hS (fun r6 I4 J5 h H locs hP hS => ?_)
  refine lv_iconst (v := (2 : Int32)) hx hb d_TC_release_28 (by decide) ?_
  refine lv_icmp_ne hx hb d_TC_release_29 (tgt := 44) rfl (fun hc10 => ?_) (fun hc10 => ?_)
  · have h := h.1 hc10
    exact x_vretX hx hb hr hlocks hP hS h d_TC_release_44
  · have h := h.2 hc10
    refine lv_aload_n hx hb d_TC_release_32 rfl (lv_at hl 0 rfl) ?_
    refine gfC_TC_25 C hP d_TC_release_33 ?_
    refine lv_iload_n hx hb d_TC_release_36 rfl (lv_at hl 1 rfl) ?_
    obtain ⟨j7, ej7, h_j7, h⟩ := h
    refine x_aald hx hb hK hP (12) 3 (Nat.le_of_ble_eq_true rfl) eC_mobiles rfl ej7 h_j7 (by decide) d_TC_release_37 ?_
    refine gfC_TC_64 C hP h_j7 d_TC_release_38 ?_
    refine x_gv (x_V C hP hS (xlt h_j7 rfl) ((eC_Me h_j7) _ _) rfl (c_Me_drop l D κ hΘ sz j7 h_j7 I4 J5 _ h) q_Me_drop k_431 k_432 k_430 rfl rfl ⟨Nat.le_of_ble_eq_true rfl, Nat.le_of_ble_eq_true rfl⟩ rfl hl.1 rfl (Nat.le_of_ble_eq_true rfl) d_TC_release_41) hS (fun I8 J9 h H locs hP hS => ?_)
    exact x_vretX hx hb hr hlocks hP hS h d_TC_release_44
set_option maxHeartbeats 4000000 in
set_option maxRecDepth 100000 in
theorem c_TC_send (l : Launch) (hfl : l.flags = pinnedFlags ++ [noTraceFlag]) (D : va_G) (κ : Nat → ClassId) {Θ : Nat → Nat} (hΘ : xJ 52 Θ) (sz : Nat) (p1 : Int32) (p2 : Int32) (p3 : Int32) (I : SI) (J : SJ) (post : SI → SJ → Prop) (exc : Nat → SI → SJ → Prop) (h : p_TC_send p1 p2 p3 post exc I J) : MetX l y_TC_send WS rm_TC_send (va_Pc [.ref (Θ (0)), .int p1, .int p2, .int p3] (xPX D clA (tysA κ) 52 Θ (eC Θ κ) sz I J)) (xQx D clA 52 Θ (eC Θ κ) sz (fun v I J => v = none ∧ post I J) exc) := by
  refine xMetX (cc := b_TC_send) (maxL := 4) (ret := none) (by decide) q_TC_send.1 ?_
  intro p e s m args below meth c s₁ B hml hno hv
  obtain ⟨hargs, ⟨hsz, hP, hK, hN, hG⟩, hsz2, hT⟩ := hv
  have hx := B.exec
  have hb := B.bytes
  have hr := B.returns
  have hlocks := B.notSynchronized
  have hts := atoms_spec (ws := WS) B.pre
  have hown : s.vm.findClass R_TC = some m.cls := findClass_of_methodNamed B.named
  have C : xC p m c b_TC_send 4 s args R_TC D clA (tysA κ) 52 Θ sz := ⟨⟨hx, hb, hml, hown, hts⟩, hK, hN, hG, hsz⟩
  have hS : va_S (xA 52 Θ sz) s.heap s.heap [] := va_S.rf
  have hE := lg_entry_eq m [.ref (Θ (0)), .int p1, .int p2, .int p3] 4
  rw [← hargs] at hE
  rw [hE]
  have hl := lv_entry [.ref (Θ (0)), .int p1, .int p2, .int p3] (n := 4) (Nat.le_of_ble_eq_true rfl)
  generalize (lg_sl [.ref (Θ (0)), .int p1, .int p2, .int p3] ++ List.replicate (4 - (lg_sl [.ref (Θ (0)), .int p1, .int p2, .int p3]).length) Slot.unset).toArray = ls at hl ⊢
  have hl : lv_has ls 4 [(0, .ref (Θ (0))), (1, .int p1), (2, .int p2), (3, .int p3)] := hl
  unfold p_TC_send at h
  refine lv_iload_n hx hb d_TC_send_0 rfl (lv_at hl 1 rfl) ?_
  refine lv_bipush (v := (8 : Int32)) hx hb d_TC_send_1 (by decide) ?_
  refine x_callN C hT hsz2 hno hlocks hP (cn_TC_needIndex l hfl D κ hΘ sz p1 (8 : Int32) I J _ _ h) q_TC_needIndex k_339 k_338 (Nat.le_of_ble_eq_true rfl) (Nat.le_of_ble_eq_true rfl) ⟨Nat.le_of_ble_eq_true rfl, Nat.le_of_ble_eq_true rfl⟩ rfl hl.1 rfl (Nat.le_of_ble_eq_true rfl) d_TC_send_3 (fun _ h => h) (fun h => ?_)
  refine lv_iload_n hx hb d_TC_send_6 rfl (lv_at hl 2 rfl) ?_
  refine lv_bipush (v := (8 : Int32)) hx hb d_TC_send_7 (by decide) ?_
  refine x_callN C hT hsz2 hno hlocks hP (cn_TC_needIndex l hfl D κ hΘ sz p2 (8 : Int32) I J _ _ h) q_TC_needIndex k_339 k_338 (Nat.le_of_ble_eq_true rfl) (Nat.le_of_ble_eq_true rfl) ⟨Nat.le_of_ble_eq_true rfl, Nat.le_of_ble_eq_true rfl⟩ rfl hl.1 rfl (Nat.le_of_ble_eq_true rfl) d_TC_send_9 (fun _ h => h) (fun h => ?_)
  refine lv_aload_n hx hb d_TC_send_12 rfl (lv_at hl 0 rfl) ?_
  refine gfC_TC_25 C hP d_TC_send_13 ?_
  refine lv_iload_n hx hb d_TC_send_16 rfl (lv_at hl 1 rfl) ?_
  obtain ⟨j1, ej1, h_j1, h⟩ := h
  refine x_aald hx hb hK hP (12) 3 (Nat.le_of_ble_eq_true rfl) eC_mobiles rfl ej1 h_j1 (by decide) d_TC_send_17 ?_
  refine x_callN C hT hsz2 hno hlocks hP (cn_TC_needRoomForMessage l hfl D κ hΘ sz j1 h_j1 I J _ _ h) q_TC_needRoomForMessage k_455 k_454 (Nat.le_of_ble_eq_true rfl) (Nat.le_of_ble_eq_true rfl) ⟨Nat.le_of_ble_eq_true rfl, Nat.le_of_ble_eq_true rfl⟩ rfl hl.1 rfl (Nat.le_of_ble_eq_true rfl) d_TC_send_18 (fun _ h => h) (fun h => ?_)
  refine lv_aload_n hx hb d_TC_send_21 rfl (lv_at hl 0 rfl) ?_
  refine gfC_TC_25 C hP d_TC_send_22 ?_
  refine lv_iload_n hx hb d_TC_send_25 rfl (lv_at hl 1 rfl) ?_
  obtain ⟨j2, ej2, h_j2, h⟩ := h
  refine x_aald hx hb hK hP (12) 3 (Nat.le_of_ble_eq_true rfl) eC_mobiles rfl ej2 h_j2 (by decide) d_TC_send_26 ?_
  refine gfC_TC_64 C hP h_j2 d_TC_send_27 ?_
  refine lv_iconst (v := (3 : Int32)) hx hb d_TC_send_30 (by decide) ?_
  refine lv_iload_n hx hb d_TC_send_31 rfl (lv_at hl 1 rfl) ?_
  refine lv_iload_n hx hb d_TC_send_32 rfl (lv_at hl 2 rfl) ?_
  refine lv_iload_n hx hb d_TC_send_33 rfl (lv_at hl 3 rfl) ?_
  refine x_gi (x_S C hP hS (c_Bk_ofData l D κ hΘ sz (3 : Int32) p1 p2 p3 I J _ h) q_Bk_ofData k_505 k_504 rfl rfl ⟨Nat.le_of_ble_eq_true rfl, Nat.le_of_ble_eq_true rfl⟩ rfl hl.1 rfl (Nat.le_of_ble_eq_true rfl) d_TC_send_34) hS (fun r5 I3 J4 h H locs hP hS => ?_)
  refine x_gv (x_V C hP hS (xlt h_j2 rfl) ((eC_Me h_j2) _ _) rfl (c_Me_put l D κ hΘ sz j2 h_j2 r5 I3 J4 _ h) q_Me_put k_435 k_436 k_480 rfl rfl ⟨Nat.le_of_ble_eq_true rfl, Nat.le_of_ble_eq_true rfl⟩ rfl hl.1 rfl (Nat.le_of_ble_eq_true rfl) d_TC_send_37) hS (fun I6 J7 h H locs hP hS => ?_)
  exact x_vretX hx hb hr hlocks hP hS h d_TC_send_40
set_option maxHeartbeats 4000000 in
set_option maxRecDepth 100000 in
theorem c_TC_speak (l : Launch) (hfl : l.flags = pinnedFlags ++ [noTraceFlag]) (D : va_G) (κ : Nat → ClassId) {Θ : Nat → Nat} (hΘ : xJ 52 Θ) (sz : Nat) (p1 : Int32) (p2 : Int32) (I : SI) (J : SJ) (post : SI → SJ → Prop) (exc : Nat → SI → SJ → Prop) (h : p_TC_speak p1 p2 post exc I J) : MetX l y_TC_speak WS rm_TC_speak (va_Pc [.ref (Θ (0)), .int p1, .int p2] (xPX D clA (tysA κ) 52 Θ (eC Θ κ) sz I J)) (xQx D clA 52 Θ (eC Θ κ) sz (fun v I J => v = none ∧ post I J) exc) := by
  refine xMetX (cc := b_TC_speak) (maxL := 3) (ret := none) (by decide) q_TC_speak.1 ?_
  intro p e s m args below meth c s₁ B hml hno hv
  obtain ⟨hargs, ⟨hsz, hP, hK, hN, hG⟩, hsz2, hT⟩ := hv
  have hx := B.exec
  have hb := B.bytes
  have hr := B.returns
  have hlocks := B.notSynchronized
  have hts := atoms_spec (ws := WS) B.pre
  have hown : s.vm.findClass R_TC = some m.cls := findClass_of_methodNamed B.named
  have C : xC p m c b_TC_speak 3 s args R_TC D clA (tysA κ) 52 Θ sz := ⟨⟨hx, hb, hml, hown, hts⟩, hK, hN, hG, hsz⟩
  have hS : va_S (xA 52 Θ sz) s.heap s.heap [] := va_S.rf
  have hE := lg_entry_eq m [.ref (Θ (0)), .int p1, .int p2] 3
  rw [← hargs] at hE
  rw [hE]
  have hl := lv_entry [.ref (Θ (0)), .int p1, .int p2] (n := 3) (Nat.le_of_ble_eq_true rfl)
  generalize (lg_sl [.ref (Θ (0)), .int p1, .int p2] ++ List.replicate (3 - (lg_sl [.ref (Θ (0)), .int p1, .int p2]).length) Slot.unset).toArray = ls at hl ⊢
  have hl : lv_has ls 3 [(0, .ref (Θ (0))), (1, .int p1), (2, .int p2)] := hl
  unfold p_TC_speak at h
  refine lv_iload_n hx hb d_TC_speak_0 rfl (lv_at hl 1 rfl) ?_
  refine lv_bipush (v := (8 : Int32)) hx hb d_TC_speak_1 (by decide) ?_
  refine x_callN C hT hsz2 hno hlocks hP (cn_TC_needIndex l hfl D κ hΘ sz p1 (8 : Int32) I J _ _ h) q_TC_needIndex k_339 k_338 (Nat.le_of_ble_eq_true rfl) (Nat.le_of_ble_eq_true rfl) ⟨Nat.le_of_ble_eq_true rfl, Nat.le_of_ble_eq_true rfl⟩ rfl hl.1 rfl (Nat.le_of_ble_eq_true rfl) d_TC_speak_3 (fun _ h => h) (fun h => ?_)
  refine lv_aload_n hx hb d_TC_speak_6 rfl (lv_at hl 0 rfl) ?_
  refine gfC_TC_25 C hP d_TC_speak_7 ?_
  refine lv_iload_n hx hb d_TC_speak_10 rfl (lv_at hl 1 rfl) ?_
  obtain ⟨j1, ej1, h_j1, h⟩ := h
  refine x_aald hx hb hK hP (12) 3 (Nat.le_of_ble_eq_true rfl) eC_mobiles rfl ej1 h_j1 (by decide) d_TC_speak_11 ?_
  refine lv_iload_n hx hb d_TC_speak_12 rfl (lv_at hl 2 rfl) ?_
  refine lv_ldc (v := (524287 : Int32)) hx hb hown (hts _ k_515) d_TC_speak_13 ?_
  refine lv_iand hx hb d_TC_speak_15 ?_
  refine pfC_TC_108 C hΘ hP hS h_j1 d_TC_speak_16 (fun H locs hP hS => ?_)
  obtain ⟨I2, eI2⟩ : ∃ y, y = xu I (14 + j1) 5 (p2 &&& (524287 : Int32)) := ⟨_, rfl⟩
  have hP : va_P D clA (xw 52 Θ (eC Θ κ) I2 J) H := by rw [eI2]; exact hP
  have h := h I2 eI2
  exact x_vretX hx hb hr hlocks hP hS h d_TC_speak_19
set_option maxHeartbeats 4000000 in
set_option maxRecDepth 100000 in
theorem c_TC_draw (l : Launch) (hfl : l.flags = pinnedFlags ++ [noTraceFlag]) (D : va_G) (κ : Nat → ClassId) {Θ : Nat → Nat} (hΘ : xJ 52 Θ) (sz : Nat) (p1 : Int32) (p2 : Int32) (I : SI) (J : SJ) (post : SI → SJ → Prop) (exc : Nat → SI → SJ → Prop) (h : p_TC_draw p1 p2 post exc I J) : MetX l y_TC_draw WS rm_TC_draw (va_Pc [.ref (Θ (0)), .int p1, .int p2] (xPX D clA (tysA κ) 52 Θ (eC Θ κ) sz I J)) (xQx D clA 52 Θ (eC Θ κ) sz (fun v I J => v = none ∧ post I J) exc) := by
  refine xMetX (cc := b_TC_draw) (maxL := 3) (ret := none) (by decide) q_TC_draw.1 ?_
  intro p e s m args below meth c s₁ B hml hno hv
  obtain ⟨hargs, ⟨hsz, hP, hK, hN, hG⟩, hsz2, hT⟩ := hv
  have hx := B.exec
  have hb := B.bytes
  have hr := B.returns
  have hlocks := B.notSynchronized
  have hts := atoms_spec (ws := WS) B.pre
  have hown : s.vm.findClass R_TC = some m.cls := findClass_of_methodNamed B.named
  have C : xC p m c b_TC_draw 3 s args R_TC D clA (tysA κ) 52 Θ sz := ⟨⟨hx, hb, hml, hown, hts⟩, hK, hN, hG, hsz⟩
  have hS : va_S (xA 52 Θ sz) s.heap s.heap [] := va_S.rf
  have hE := lg_entry_eq m [.ref (Θ (0)), .int p1, .int p2] 3
  rw [← hargs] at hE
  rw [hE]
  have hl := lv_entry [.ref (Θ (0)), .int p1, .int p2] (n := 3) (Nat.le_of_ble_eq_true rfl)
  generalize (lg_sl [.ref (Θ (0)), .int p1, .int p2] ++ List.replicate (3 - (lg_sl [.ref (Θ (0)), .int p1, .int p2]).length) Slot.unset).toArray = ls at hl ⊢
  have hl : lv_has ls 3 [(0, .ref (Θ (0))), (1, .int p1), (2, .int p2)] := hl
  unfold p_TC_draw at h
  refine lv_iload_n hx hb d_TC_draw_0 rfl (lv_at hl 1 rfl) ?_
  refine lv_bipush (v := (8 : Int32)) hx hb d_TC_draw_1 (by decide) ?_
  refine x_callN C hT hsz2 hno hlocks hP (cn_TC_needIndex l hfl D κ hΘ sz p1 (8 : Int32) I J _ _ h) q_TC_needIndex k_339 k_338 (Nat.le_of_ble_eq_true rfl) (Nat.le_of_ble_eq_true rfl) ⟨Nat.le_of_ble_eq_true rfl, Nat.le_of_ble_eq_true rfl⟩ rfl hl.1 rfl (Nat.le_of_ble_eq_true rfl) d_TC_draw_3 (fun _ h => h) (fun h => ?_)
  refine lv_iload_n hx hb d_TC_draw_6 rfl (lv_at hl 2 rfl) ?_
  refine lv_if_lt hx hb d_TC_draw_7 (tgt := 16) rfl (fun hc10 => ?_) (fun hc10 => ?_)
  · have h := h.1 hc10
    exact x_throw (i1 := 113) (tx := "a draw is 0 to 15") hfl C hT hno hlocks 3 xOwn_3 (by decide +kernel) k_524 k_525 k_17 (by decide) hl.1 d_TC_draw_16 d_TC_draw_19 d_TC_draw_20 d_TC_draw_22 d_TC_draw_25 (Nat.le_of_ble_eq_true rfl) (Nat.le_of_ble_eq_true rfl) (Nat.le_of_ble_eq_true rfl) (Nat.le_of_ble_eq_true rfl) (x_qx hP h)
  · have h := h.2 hc10
    refine lv_iload_n hx hb d_TC_draw_10 rfl (lv_at hl 2 rfl) ?_
    refine lv_bipush (v := (15 : Int32)) hx hb d_TC_draw_11 (by decide) ?_
    refine lv_icmp_le hx hb d_TC_draw_13 (tgt := 26) rfl (fun hc9 => ?_) (fun hc9 => ?_)
    · have h := h.1 hc9
      refine lv_aload_n hx hb d_TC_draw_26 rfl (lv_at hl 0 rfl) ?_
      refine gfC_TC_25 C hP d_TC_draw_27 ?_
      refine lv_iload_n hx hb d_TC_draw_30 rfl (lv_at hl 1 rfl) ?_
      obtain ⟨j1, ej1, h_j1, h⟩ := h
      refine x_aald hx hb hK hP (12) 3 (Nat.le_of_ble_eq_true rfl) eC_mobiles rfl ej1 h_j1 (by decide) d_TC_draw_31 ?_
      refine lv_iload_n hx hb d_TC_draw_32 rfl (lv_at hl 2 rfl) ?_
      by_cases hc8 : (8 : Int32) ≤ I (14 + j1) 3
      · have h := h.1 hc8
        refine x_gp (x_VF C hP hS (xlt h_j1 rfl) ((eC_Mo h_j1) _ _) rfl (cp_Mo_addDraw l D κ hΘ sz j1 h_j1 p2 I J _ h) q_Mo_addDraw k_541 k_542 k_540 rfl rfl ⟨Nat.le_of_ble_eq_true rfl, Nat.le_of_ble_eq_true rfl⟩ rfl hl.1 rfl (Nat.le_of_ble_eq_true rfl) d_TC_draw_33) (fun r2 h => ?_)
        refine lv_if_ne hx hb d_TC_draw_36 (tgt := 49) rfl (fun hc3 => ?_) (fun hc3 => ?_)
        · have h := h.1 hc3
          exact x_vretX hx hb hr hlocks hP hS h d_TC_draw_49
        · have h := h.2 hc3
          exact x_throw (i1 := 120) (tx := "it has 8 draws") hfl C hT hno hlocks 2 xOwn_2 (by decide +kernel) k_461 k_462 k_15 (by decide) hl.1 d_TC_draw_39 d_TC_draw_42 d_TC_draw_43 d_TC_draw_45 d_TC_draw_48 (Nat.le_of_ble_eq_true rfl) (Nat.le_of_ble_eq_true rfl) (Nat.le_of_ble_eq_true rfl) (Nat.le_of_ble_eq_true rfl) (x_qx hP h)
      · have h := h.2 hc8
        refine x_gi (x_V C hP hS (xlt h_j1 rfl) ((eC_Mo h_j1) _ _) rfl (c_Mo_addDraw l D κ hΘ sz j1 h_j1 p2 I J _ h) q_Mo_addDraw k_541 k_542 k_540 rfl rfl ⟨Nat.le_of_ble_eq_true rfl, Nat.le_of_ble_eq_true rfl⟩ rfl hl.1 rfl (Nat.le_of_ble_eq_true rfl) d_TC_draw_33) hS (fun r6 I4 J5 h H locs hP hS => ?_)
        refine lv_if_ne hx hb d_TC_draw_36 (tgt := 49) rfl (fun hc7 => ?_) (fun hc7 => ?_)
        · have h := h.1 hc7
          exact x_vretX hx hb hr hlocks hP hS h d_TC_draw_49
        · have h := h.2 hc7
          exact h.elim
    · have h := h.2 hc9
      exact x_throw (i1 := 113) (tx := "a draw is 0 to 15") hfl C hT hno hlocks 3 xOwn_3 (by decide +kernel) k_524 k_525 k_17 (by decide) hl.1 d_TC_draw_16 d_TC_draw_19 d_TC_draw_20 d_TC_draw_22 d_TC_draw_25 (Nat.le_of_ble_eq_true rfl) (Nat.le_of_ble_eq_true rfl) (Nat.le_of_ble_eq_true rfl) (Nat.le_of_ble_eq_true rfl) (x_qx hP h)
set_option maxHeartbeats 4000000 in
set_option maxRecDepth 100000 in
theorem c_TC_fault (l : Launch) (hfl : l.flags = pinnedFlags ++ [noTraceFlag]) (D : va_G) (κ : Nat → ClassId) {Θ : Nat → Nat} (hΘ : xJ 52 Θ) (sz : Nat) (p1 : Int32) (p2 : Int64) (I : SI) (J : SJ) (post : SI → SJ → Prop) (exc : Nat → SI → SJ → Prop) (h : p_TC_fault p1 p2 post exc I J) : MetX l y_TC_fault WS rm_TC_fault (va_Pc [.ref (Θ (0)), .int p1, .long p2] (xPX D clA (tysA κ) 52 Θ (eC Θ κ) sz I J)) (xQx D clA 52 Θ (eC Θ κ) sz (fun v I J => v = none ∧ post I J) exc) := by
  refine xMetX (cc := b_TC_fault) (maxL := 4) (ret := none) (by decide) q_TC_fault.1 ?_
  intro p e s m args below meth c s₁ B hml hno hv
  obtain ⟨hargs, ⟨hsz, hP, hK, hN, hG⟩, hsz2, hT⟩ := hv
  have hx := B.exec
  have hb := B.bytes
  have hr := B.returns
  have hlocks := B.notSynchronized
  have hts := atoms_spec (ws := WS) B.pre
  have hown : s.vm.findClass R_TC = some m.cls := findClass_of_methodNamed B.named
  have C : xC p m c b_TC_fault 4 s args R_TC D clA (tysA κ) 52 Θ sz := ⟨⟨hx, hb, hml, hown, hts⟩, hK, hN, hG, hsz⟩
  have hS : va_S (xA 52 Θ sz) s.heap s.heap [] := va_S.rf
  have hE := lg_entry_eq m [.ref (Θ (0)), .int p1, .long p2] 4
  rw [← hargs] at hE
  rw [hE]
  have hl := lv_entry [.ref (Θ (0)), .int p1, .long p2] (n := 4) (Nat.le_of_ble_eq_true rfl)
  generalize (lg_sl [.ref (Θ (0)), .int p1, .long p2] ++ List.replicate (4 - (lg_sl [.ref (Θ (0)), .int p1, .long p2]).length) Slot.unset).toArray = ls at hl ⊢
  have hl : lv_has ls 4 [(0, .ref (Θ (0))), (1, .int p1), (2, .long p2)] := hl
  unfold p_TC_fault at h
  refine lv_iload_n hx hb d_TC_fault_0 rfl (lv_at hl 1 rfl) ?_
  refine lv_bipush (v := (11 : Int32)) hx hb d_TC_fault_1 (by decide) ?_
  refine x_callN C hT hsz2 hno hlocks hP (cn_TC_needIndex l hfl D κ hΘ sz p1 (11 : Int32) I J _ _ h) q_TC_needIndex k_339 k_338 (Nat.le_of_ble_eq_true rfl) (Nat.le_of_ble_eq_true rfl) ⟨Nat.le_of_ble_eq_true rfl, Nat.le_of_ble_eq_true rfl⟩ rfl hl.1 rfl (Nat.le_of_ble_eq_true rfl) d_TC_fault_3 (fun _ h => h) (fun h => ?_)
  refine lv_aload_n hx hb d_TC_fault_6 rfl (lv_at hl 0 rfl) ?_
  refine gfC_TC_32 C hP d_TC_fault_7 ?_
  refine lv_iload_n hx hb d_TC_fault_10 rfl (lv_at hl 1 rfl) ?_
  refine lv_lload_n hx hb d_TC_fault_11 rfl (lv_at hl 2 rfl) ?_
  refine lv_ldc2 (v := (18014398509481983 : Int64)) hx hb hown (hts _ k_552) d_TC_fault_12 ?_
  refine lv_land hx hb d_TC_fault_15 ?_
  obtain ⟨j1, ej1, h_j1, h⟩ := h
  refine x_last hx hb hK hΘ hP hS (13) 1 (Nat.le_of_ble_eq_true rfl) eC_faults rfl ej1 h_j1 (by decide) d_TC_fault_16 (fun H locs hP hS => ?_)
  obtain ⟨J2, eJ2⟩ : ∃ y, y = xv J (13) j1 (p2 &&& (18014398509481983 : Int64)) := ⟨_, rfl⟩
  have hP : va_P D clA (xw 52 Θ (eC Θ κ) I J2) H := by rw [eJ2]; exact hP
  have h := h J2 eJ2
  exact x_vretX hx hb hr hlocks hP hS h d_TC_fault_17
set_option maxHeartbeats 4000000 in
set_option maxRecDepth 100000 in
theorem c_TC_tick (l : Launch) (hfl : l.flags = pinnedFlags ++ [noTraceFlag]) (D : va_G) (κ : Nat → ClassId) {Θ : Nat → Nat} (hΘ : xJ 52 Θ) (sz : Nat) (p1 : Int32) (I : SI) (J : SJ) (post : Int32 → SI → SJ → Prop) (exc : Nat → SI → SJ → Prop) (h : p_TC_tick p1 post exc I J) : MetX l y_TC_tick WS rm_TC_tick (va_Pc [.ref (Θ (0)), .int p1] (xPX D clA (tysA κ) 52 Θ (eC Θ κ) sz I J)) (xQx D clA 52 Θ (eC Θ κ) sz (fun w I J => ∃ r, w = some (.int r) ∧ post r I J) exc) := by
  refine xMetX (cc := b_TC_tick) (maxL := 5) (ret := (some .int)) (by decide) q_TC_tick.1 ?_
  intro p e s m args below meth c s₁ B hml hno hv
  obtain ⟨hargs, ⟨hsz, hP, hK, hN, hG⟩, hsz2, hT⟩ := hv
  have hx := B.exec
  have hb := B.bytes
  have hr := B.returns
  have hlocks := B.notSynchronized
  have hts := atoms_spec (ws := WS) B.pre
  have hown : s.vm.findClass R_TC = some m.cls := findClass_of_methodNamed B.named
  have C : xC p m c b_TC_tick 5 s args R_TC D clA (tysA κ) 52 Θ sz := ⟨⟨hx, hb, hml, hown, hts⟩, hK, hN, hG, hsz⟩
  have hS : va_S (xA 52 Θ sz) s.heap s.heap [] := va_S.rf
  have tJ88 : ∀ (k34 : Int32 → SI → SJ → Prop), (∀ (v2 : Int32) (I : SI) (J : SJ), k34 v2 I J → ∀ (H : Heap) (locs : List Loc) (ls : Array Slot), lv_has ls 5 [(0, .ref (Θ (0))), (1, .int p1), (2, .int v2)] → va_P D clA (xw 52 Θ (eC Θ κ) I J) H → va_S (xA 52 Θ sz) s.heap H locs → W p l e (headSpec WS rm_TC_tick).room s m args below meth c H locs 0 0 (MQX below (xQx D clA 52 Θ (eC Θ κ) sz (fun w I J => ∃ r, w = some (.int r) ∧ post r I J) exc) args s) (F0 m 34 ls [])) → ∀ (v2 : Int32) (I : SI) (J : SJ), p_TC_tick_88 p1 post exc k34 v2 I J → ∀ (H : Heap) (locs : List Loc) (ls : Array Slot), lv_has ls 5 [(0, .ref (Θ (0))), (1, .int p1), (2, .int v2)] → va_P D clA (xw 52 Θ (eC Θ κ) I J) H → va_S (xA 52 Θ sz) s.heap H locs → W p l e (headSpec WS rm_TC_tick).room s m args below meth c H locs 0 0 (MQX below (xQx D clA 52 Θ (eC Θ κ) sz (fun w I J => ∃ r, w = some (.int r) ∧ post r I J) exc) args s) (F0 m 88 ls []) := by
    intro k34 hk34 v2 I J h H locs ls hl hP hS
    unfold p_TC_tick_88 at h
    refine lv_aload_n hx hb d_TC_tick_88 rfl (lv_at hl 0 rfl) ?_
    refine lv_dup hx hb d_TC_tick_89 rfl ?_
    refine gfC_TC_36 C hP d_TC_tick_90 ?_
    refine lv_iconst (v := (1 : Int32)) hx hb d_TC_tick_93 (by decide) ?_
    refine lv_iadd hx hb d_TC_tick_94 ?_
    refine pfC_TC_36 C hΘ hP hS d_TC_tick_95 (fun H locs hP hS => ?_)
    obtain ⟨I6, eI6⟩ : ∃ y, y = xu I (0) 4 ((I 0 4) + (1 : Int32)) := ⟨_, rfl⟩
    have hP : va_P D clA (xw 52 Θ (eC Θ κ) I6 J) H := by rw [eI6]; exact hP
    have h := h I6 eI6
    obtain ⟨x7, ex7⟩ : ∃ y : Int32, y = v2 + (1 : Int32) := ⟨_, rfl⟩
    have h := h x7 ex7
    refine lv_iinc (k := 2) (v := x7) hx hb d_TC_tick_98 hl rfl (by rw [ex7]; rfl) (Nat.le_of_ble_eq_true rfl) (lv' := [(2, .int x7), (0, .ref (Θ (0))), (1, .int p1)]) rfl (fun ls hl => ?_)
    refine lv_goto hx hb d_TC_tick_101 (tgt := 34) rfl ?_
    exact hk34 _ _ _ h _ _ _ (lv_sub hl [1, 2, 0] rfl) hP hS
  have tJ74 : ∀ (k34 : Int32 → SI → SJ → Prop), (∀ (v2 : Int32) (I : SI) (J : SJ), k34 v2 I J → ∀ (H : Heap) (locs : List Loc) (ls : Array Slot), lv_has ls 5 [(0, .ref (Θ (0))), (1, .int p1), (2, .int v2)] → va_P D clA (xw 52 Θ (eC Θ κ) I J) H → va_S (xA 52 Θ sz) s.heap H locs → W p l e (headSpec WS rm_TC_tick).room s m args below meth c H locs 0 0 (MQX below (xQx D clA 52 Θ (eC Θ κ) sz (fun w I J => ∃ r, w = some (.int r) ∧ post r I J) exc) args s) (F0 m 34 ls [])) → ∀ (v2 : Int32) (v3 : Int32) (v4 : Int32) (I : SI) (J : SJ), p_TC_tick_74 p1 post exc k34 v2 v3 v4 I J → ∀ (H : Heap) (locs : List Loc) (ls : Array Slot), lv_has ls 5 [(0, .ref (Θ (0))), (1, .int p1), (2, .int v2), (3, .int v3), (4, .int v4)] → va_P D clA (xw 52 Θ (eC Θ κ) I J) H → va_S (xA 52 Θ sz) s.heap H locs → W p l e (headSpec WS rm_TC_tick).room s m args below meth c H locs 0 0 (MQX below (xQx D clA 52 Θ (eC Θ κ) sz (fun w I J => ∃ r, w = some (.int r) ∧ post r I J) exc) args s) (F0 m 74 ls []) := by
    intro k34 hk34 v2 v3 v4 I J h H locs ls hl hP hS
    unfold p_TC_tick_74 at h
    refine lv_iload_n hx hb d_TC_tick_74 rfl (lv_at hl 3 rfl) ?_
    refine lv_iconst (v := (3 : Int32)) hx hb d_TC_tick_75 (by decide) ?_
    refine lv_icmp_ne hx hb d_TC_tick_76 (tgt := 88) rfl (fun hc10 => ?_) (fun hc10 => ?_)
    · have h := h.1 hc10
      exact tJ88 _ hk34 _ _ _ h _ _ _ (lv_sub hl [0, 1, 2] rfl) hP hS
    · have h := h.2 hc10
      refine lv_aload_n hx hb d_TC_tick_79 rfl (lv_at hl 0 rfl) ?_
      refine gfC_TC_19 C hP d_TC_tick_80 ?_
      refine lv_iload hx hb d_TC_tick_83 (lv_at hl 4 rfl) ?_
      refine x_gv (x_V C hP hS (Nat.le_of_ble_eq_true rfl) (eC_Sw _ _) rfl (c_Sw_endLongTurns l D κ hΘ sz v4 I J _ h) q_Sw_endLongTurns k_755 k_756 k_754 rfl rfl ⟨Nat.le_of_ble_eq_true rfl, Nat.le_of_ble_eq_true rfl⟩ rfl hl.1 rfl (Nat.le_of_ble_eq_true rfl) d_TC_tick_85) hS (fun I8 J9 h H locs hP hS => ?_)
      exact tJ88 _ hk34 _ _ _ h _ _ _ (lv_sub hl [0, 1, 2] rfl) hP hS
  have tL34 : ∀ (n : Nat) (v2 : Int32) (I : SI) (J : SJ), p_TC_tick_L34 p1 post exc n v2 I J → ∀ (H : Heap) (locs : List Loc) (ls : Array Slot), lv_has ls 5 [(0, .ref (Θ (0))), (1, .int p1), (2, .int v2)] → va_P D clA (xw 52 Θ (eC Θ κ) I J) H → va_S (xA 52 Θ sz) s.heap H locs → W p l e (headSpec WS rm_TC_tick).room s m args below meth c H locs 0 0 (MQX below (xQx D clA 52 Θ (eC Θ κ) sz (fun w I J => ∃ r, w = some (.int r) ∧ post r I J) exc) args s) (F0 m 34 ls []) := by
    intro n
    induction n with
    | zero =>
      intro v2 I J h H locs ls hl hP hS
      exact h.elim
    | succ n ih =>
      intro v2 I J h H locs ls hl hP hS
      unfold p_TC_tick_L34 at h
      refine lv_iload_n hx hb d_TC_tick_34 rfl (lv_at hl 2 rfl) ?_
      refine lv_iload_n hx hb d_TC_tick_35 rfl (lv_at hl 1 rfl) ?_
      refine lv_icmp_ge hx hb d_TC_tick_36 (tgt := 104) rfl (fun hc14 => ?_) (fun hc14 => ?_)
      · have h := h.1 hc14
        refine lv_aload_n hx hb d_TC_tick_104 rfl (lv_at hl 0 rfl) ?_
        refine gfC_TC_36 C hP d_TC_tick_105 ?_
        exact x_iretX hx hb hr hlocks hP hS h d_TC_tick_108
      · have h := h.2 hc14
        refine lv_aload_n hx hb d_TC_tick_39 rfl (lv_at hl 0 rfl) ?_
        refine gfC_TC_36 C hP d_TC_tick_40 ?_
        refine lv_iconst (v := (4 : Int32)) hx hb d_TC_tick_43 (by decide) ?_
        refine lv_irem hx hb d_TC_tick_44 (by decide) ?_
        refine lv_topi (fun x2 ex2 => ?_)
        have h := h x2 ex2
        refine lv_istore_n hx hb d_TC_tick_45 rfl hl (Nat.le_of_ble_eq_true rfl) (lv' := [(3, .int x2), (0, .ref (Θ (0))), (1, .int p1), (2, .int v2)]) rfl (fun ls hl => ?_)
        refine lv_aload_n hx hb d_TC_tick_46 rfl (lv_at hl 1 rfl) ?_
        refine gfC_TC_36 C hP d_TC_tick_47 ?_
        refine lv_iconst (v := (4 : Int32)) hx hb d_TC_tick_50 (by decide) ?_
        refine lv_idiv hx hb d_TC_tick_51 (by decide) ?_
        refine lv_topi (fun x3 ex3 => ?_)
        have h := h x3 ex3
        refine lv_istore hx hb d_TC_tick_52 hl (Nat.le_of_ble_eq_true rfl) (lv' := [(4, .int x3), (3, .int x2), (0, .ref (Θ (0))), (1, .int p1), (2, .int v2)]) rfl (fun ls hl => ?_)
        refine lv_iload_n hx hb d_TC_tick_54 rfl (lv_at hl 1 rfl) ?_
        refine lv_if_ne hx hb d_TC_tick_55 (tgt := 67) rfl (fun hc13 => ?_) (fun hc13 => ?_)
        · have h := h.1 hc13
          refine lv_aload_n hx hb d_TC_tick_67 rfl (lv_at hl 2 rfl) ?_
          refine lv_iload_n hx hb d_TC_tick_68 rfl (lv_at hl 1 rfl) ?_
          refine lv_iload hx hb d_TC_tick_69 (lv_at hl 0 rfl) ?_
          refine x_gv (x_V C hP hS (Nat.le_of_ble_eq_true rfl) (eC_TC _ _) rfl (c_TC_runTraffic l D κ hΘ sz x2 x3 I J _ h) q_TC_runTraffic k_722 sel_TC_runTraffic k_720 rfl rfl ⟨Nat.le_of_ble_eq_true rfl, Nat.le_of_ble_eq_true rfl⟩ rfl hl.1 rfl (Nat.le_of_ble_eq_true rfl) d_TC_tick_71) hS (fun I4 J5 h H locs hP hS => ?_)
          exact tJ74 _ ih _ _ _ _ _ h _ _ _ (lv_sub hl [2, 3, 4, 1, 0] rfl) hP hS
        · have h := h.2 hc13
          refine lv_aload_n hx hb d_TC_tick_58 rfl (lv_at hl 2 rfl) ?_
          refine lv_iload hx hb d_TC_tick_59 (lv_at hl 0 rfl) ?_
          refine x_gv (x_V C hP hS (Nat.le_of_ble_eq_true rfl) (eC_TC _ _) rfl (c_TC_runControl l D κ hΘ sz x3 I J _ h) q_TC_runControl k_564 sel_TC_runControl k_562 rfl rfl ⟨Nat.le_of_ble_eq_true rfl, Nat.le_of_ble_eq_true rfl⟩ rfl hl.1 rfl (Nat.le_of_ble_eq_true rfl) d_TC_tick_61) hS (fun I11 J12 h H locs hP hS => ?_)
          refine lv_goto hx hb d_TC_tick_64 (tgt := 74) rfl ?_
          exact tJ74 _ ih _ _ _ _ _ h _ _ _ (lv_sub hl [2, 3, 4, 1, 0] rfl) hP hS
  have hE := lg_entry_eq m [.ref (Θ (0)), .int p1] 5
  rw [← hargs] at hE
  rw [hE]
  have hl := lv_entry [.ref (Θ (0)), .int p1] (n := 5) (Nat.le_of_ble_eq_true rfl)
  generalize (lg_sl [.ref (Θ (0)), .int p1] ++ List.replicate (5 - (lg_sl [.ref (Θ (0)), .int p1]).length) Slot.unset).toArray = ls at hl ⊢
  have hl : lv_has ls 5 [(0, .ref (Θ (0))), (1, .int p1)] := hl
  unfold p_TC_tick at h
  refine lv_iload_n hx hb d_TC_tick_0 rfl (lv_at hl 1 rfl) ?_
  refine lv_if_lt hx hb d_TC_tick_1 (tgt := 22) rfl (fun hc18 => ?_) (fun hc18 => ?_)
  · have h := h.1 hc18
    exact x_throw (i1 := 125) (tx := "n is not 0 to 200, or the time would be too late") hfl C hT hno hlocks 3 xOwn_3 (by decide +kernel) k_524 k_525 k_17 (by decide) hl.1 d_TC_tick_22 d_TC_tick_25 d_TC_tick_26 d_TC_tick_28 d_TC_tick_31 (Nat.le_of_ble_eq_true rfl) (Nat.le_of_ble_eq_true rfl) (Nat.le_of_ble_eq_true rfl) (Nat.le_of_ble_eq_true rfl) (x_qx hP h)
  · have h := h.2 hc18
    refine lv_iload_n hx hb d_TC_tick_4 rfl (lv_at hl 1 rfl) ?_
    refine lv_sipush (v := (200 : Int32)) hx hb d_TC_tick_5 (by decide) ?_
    refine lv_icmp_gt hx hb d_TC_tick_8 (tgt := 22) rfl (fun hc17 => ?_) (fun hc17 => ?_)
    · have h := h.1 hc17
      exact x_throw (i1 := 125) (tx := "n is not 0 to 200, or the time would be too late") hfl C hT hno hlocks 3 xOwn_3 (by decide +kernel) k_524 k_525 k_17 (by decide) hl.1 d_TC_tick_22 d_TC_tick_25 d_TC_tick_26 d_TC_tick_28 d_TC_tick_31 (Nat.le_of_ble_eq_true rfl) (Nat.le_of_ble_eq_true rfl) (Nat.le_of_ble_eq_true rfl) (Nat.le_of_ble_eq_true rfl) (x_qx hP h)
    · have h := h.2 hc17
      refine lv_iload_n hx hb d_TC_tick_11 rfl (lv_at hl 1 rfl) ?_
      refine lv_ldc (v := (1000000000 : Int32)) hx hb hown (hts _ k_560) d_TC_tick_12 ?_
      refine lv_aload_n hx hb d_TC_tick_14 rfl (lv_at hl 0 rfl) ?_
      refine gfC_TC_36 C hP d_TC_tick_15 ?_
      refine lv_isub hx hb d_TC_tick_18 ?_
      refine lv_icmp_le hx hb d_TC_tick_19 (tgt := 32) rfl (fun hc16 => ?_) (fun hc16 => ?_)
      · have h := h.1 hc16
        refine lv_iconst (v := (0 : Int32)) hx hb d_TC_tick_32 (by decide) ?_
        refine lv_topi (fun x1 ex1 => ?_)
        have h := h x1 ex1
        refine lv_istore_n hx hb d_TC_tick_33 rfl hl (Nat.le_of_ble_eq_true rfl) (lv' := [(2, .int x1), (0, .ref (Θ (0))), (1, .int p1)]) rfl (fun ls hl => ?_)
        obtain ⟨n15, h⟩ := h
        refine tL34 n15 _ _ _ h _ _ _ (lv_sub hl [1, 2, 0] rfl) hP hS
      · have h := h.2 hc16
        exact x_throw (i1 := 125) (tx := "n is not 0 to 200, or the time would be too late") hfl C hT hno hlocks 3 xOwn_3 (by decide +kernel) k_524 k_525 k_17 (by decide) hl.1 d_TC_tick_22 d_TC_tick_25 d_TC_tick_26 d_TC_tick_28 d_TC_tick_31 (Nat.le_of_ble_eq_true rfl) (Nat.le_of_ble_eq_true rfl) (Nat.le_of_ble_eq_true rfl) (Nat.le_of_ble_eq_true rfl) (x_qx hP h)
