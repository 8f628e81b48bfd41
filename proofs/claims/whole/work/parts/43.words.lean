theorem k_14 : (Jvm.Cond.initialized "java/lang/IndexOutOfBoundsException") ∈ WS := WS_of 14 (by decide +kernel) (by decide +kernel)
theorem k_15 : (Jvm.Cond.initialized "java/lang/IllegalStateException") ∈ WS := WS_of 15 (by decide +kernel) (by decide +kernel)
theorem k_17 : (Jvm.Cond.initialized "java/lang/IllegalArgumentException") ∈ WS := WS_of 17 (by decide +kernel) (by decide +kernel)
theorem k_222 : (Jvm.Cond.fieldLink "TrunkCells" (36 : Nat) "TrunkCells" "time" "I") ∈ WS := WS_of 222 (by decide +kernel) (by decide +kernel)
theorem k_337 : (Jvm.Cond.code y_TC_keys prog_1_method_2_code (4 : Nat) (Option.none : Option Jvm.ClassFile.FieldType)) ∈ WS := WS_of 337 (by decide +kernel) (by decide +kernel)
theorem k_338 : (Jvm.Cond.methodLink "TrunkCells" (40 : Nat) y_TC_needIndex) ∈ WS := WS_of 338 (by decide +kernel) (by decide +kernel)
theorem k_339 : (Jvm.Cond.static y_TC_needIndex) ∈ WS := WS_of 339 (by decide +kernel) (by decide +kernel)
theorem k_340 : (Jvm.Cond.code y_TC_needIndex prog_1_method_22_code (2 : Nat) (Option.none : Option Jvm.ClassFile.FieldType)) ∈ WS := WS_of 340 (by decide +kernel) (by decide +kernel)
theorem k_341 : (Jvm.Cond.classLink "TrunkCells" (176 : Nat) "java/lang/IndexOutOfBoundsException") ∈ WS := WS_of 341 (by decide +kernel) (by decide +kernel)
theorem k_342 : (Jvm.Cond.instantiable "java/lang/IndexOutOfBoundsException" (6 : Nat)) ∈ WS := WS_of 342 (by decide +kernel) (by decide +kernel)
theorem k_415 : (Jvm.Cond.code y_TC_group prog_1_method_3_code (3 : Nat) (Option.none : Option Jvm.ClassFile.FieldType)) ∈ WS := WS_of 415 (by decide +kernel) (by decide +kernel)
theorem k_422 : (Jvm.Cond.code y_TC_member prog_1_method_4_code (3 : Nat) (Option.none : Option Jvm.ClassFile.FieldType)) ∈ WS := WS_of 422 (by decide +kernel) (by decide +kernel)
theorem k_429 : (Jvm.Cond.code y_TC_move prog_1_method_5_code (4 : Nat) (Option.none : Option Jvm.ClassFile.FieldType)) ∈ WS := WS_of 429 (by decide +kernel) (by decide +kernel)
theorem k_430 : (Jvm.Cond.methodLink "TrunkCells" (68 : Nat) y_Me_drop) ∈ WS := WS_of 430 (by decide +kernel) (by decide +kernel)
theorem k_438 : (Jvm.Cond.methodLink "TrunkCells" (76 : Nat) y_Mo_turnIdle) ∈ WS := WS_of 438 (by decide +kernel) (by decide +kernel)
theorem k_453 : (Jvm.Cond.code y_TC_register prog_1_method_6_code (2 : Nat) (Option.none : Option Jvm.ClassFile.FieldType)) ∈ WS := WS_of 453 (by decide +kernel) (by decide +kernel)
theorem k_454 : (Jvm.Cond.methodLink "TrunkCells" (79 : Nat) y_TC_needRoomForMessage) ∈ WS := WS_of 454 (by decide +kernel) (by decide +kernel)
theorem k_455 : (Jvm.Cond.static y_TC_needRoomForMessage) ∈ WS := WS_of 455 (by decide +kernel) (by decide +kernel)
theorem k_456 : (Jvm.Cond.code y_TC_needRoomForMessage prog_1_method_23_code (1 : Nat) (Option.none : Option Jvm.ClassFile.FieldType)) ∈ WS := WS_of 456 (by decide +kernel) (by decide +kernel)
theorem k_461 : (Jvm.Cond.classLink "TrunkCells" (92 : Nat) "java/lang/IllegalStateException") ∈ WS := WS_of 461 (by decide +kernel) (by decide +kernel)
theorem k_462 : (Jvm.Cond.instantiable "java/lang/IllegalStateException" (6 : Nat)) ∈ WS := WS_of 462 (by decide +kernel) (by decide +kernel)
theorem k_480 : (Jvm.Cond.methodLink "TrunkCells" (89 : Nat) y_Me_put) ∈ WS := WS_of 480 (by decide +kernel) (by decide +kernel)
theorem k_487 : (Jvm.Cond.code y_TC_press prog_1_method_7_code (4 : Nat) (Option.none : Option Jvm.ClassFile.FieldType)) ∈ WS := WS_of 487 (by decide +kernel) (by decide +kernel)
theorem k_495 : (Jvm.Cond.code y_TC_release prog_1_method_8_code (2 : Nat) (Option.none : Option Jvm.ClassFile.FieldType)) ∈ WS := WS_of 495 (by decide +kernel) (by decide +kernel)
theorem k_496 : (Jvm.Cond.methodLink "TrunkCells" (99 : Nat) y_Me_kind) ∈ WS := WS_of 496 (by decide +kernel) (by decide +kernel)
theorem k_503 : (Jvm.Cond.code y_TC_send prog_1_method_9_code (4 : Nat) (Option.none : Option Jvm.ClassFile.FieldType)) ∈ WS := WS_of 503 (by decide +kernel) (by decide +kernel)
theorem k_504 : (Jvm.Cond.methodLink "TrunkCells" (103 : Nat) y_Bk_ofData) ∈ WS := WS_of 504 (by decide +kernel) (by decide +kernel)
theorem k_514 : (Jvm.Cond.code y_TC_speak prog_1_method_10_code (3 : Nat) (Option.none : Option Jvm.ClassFile.FieldType)) ∈ WS := WS_of 514 (by decide +kernel) (by decide +kernel)
theorem k_515 : (Jvm.Cond.constant "TrunkCells" (107 : Nat) (524287 : Int32)) ∈ WS := WS_of 515 (by decide +kernel) (by decide +kernel)
theorem k_523 : (Jvm.Cond.code y_TC_draw prog_1_method_11_code (3 : Nat) (Option.none : Option Jvm.ClassFile.FieldType)) ∈ WS := WS_of 523 (by decide +kernel) (by decide +kernel)
theorem k_524 : (Jvm.Cond.classLink "TrunkCells" (111 : Nat) "java/lang/IllegalArgumentException") ∈ WS := WS_of 524 (by decide +kernel) (by decide +kernel)
theorem k_525 : (Jvm.Cond.instantiable "java/lang/IllegalArgumentException" (6 : Nat)) ∈ WS := WS_of 525 (by decide +kernel) (by decide +kernel)
theorem k_540 : (Jvm.Cond.methodLink "TrunkCells" (116 : Nat) y_Mo_addDraw) ∈ WS := WS_of 540 (by decide +kernel) (by decide +kernel)
theorem k_541 : (Jvm.Cond.instanceMethod y_Mo_addDraw) ∈ WS := WS_of 541 (by decide +kernel) (by decide +kernel)
theorem k_542 : (Jvm.Cond.selects "TrunkCells$Mobile" y_Mo_addDraw y_Mo_addDraw) ∈ WS := WS_of 542 (by decide +kernel) (by decide +kernel)
theorem k_551 : (Jvm.Cond.code y_TC_fault prog_1_method_12_code (4 : Nat) (Option.none : Option Jvm.ClassFile.FieldType)) ∈ WS := WS_of 551 (by decide +kernel) (by decide +kernel)
theorem k_552 : (Jvm.Cond.constantLong "TrunkCells" (122 : Nat) (18014398509481983 : Int64)) ∈ WS := WS_of 552 (by decide +kernel) (by decide +kernel)
theorem k_559 : (Jvm.Cond.code y_TC_tick prog_1_method_13_code (5 : Nat) (Option.some Jvm.ClassFile.FieldType.int)) ∈ WS := WS_of 559 (by decide +kernel) (by decide +kernel)
theorem k_560 : (Jvm.Cond.constant "TrunkCells" (124 : Nat) (1000000000 : Int32)) ∈ WS := WS_of 560 (by decide +kernel) (by decide +kernel)
theorem k_562 : (Jvm.Cond.methodLink "TrunkCells" (127 : Nat) y_TC_runControl) ∈ WS := WS_of 562 (by decide +kernel) (by decide +kernel)
theorem k_564 : (Jvm.Cond.instanceMethod y_TC_runControl) ∈ WS := WS_of 564 (by decide +kernel) (by decide +kernel)
theorem k_720 : (Jvm.Cond.methodLink "TrunkCells" (130 : Nat) y_TC_runTraffic) ∈ WS := WS_of 720 (by decide +kernel) (by decide +kernel)
theorem k_722 : (Jvm.Cond.instanceMethod y_TC_runTraffic) ∈ WS := WS_of 722 (by decide +kernel) (by decide +kernel)
theorem k_754 : (Jvm.Cond.methodLink "TrunkCells" (133 : Nat) y_Sw_endLongTurns) ∈ WS := WS_of 754 (by decide +kernel) (by decide +kernel)
theorem k_755 : (Jvm.Cond.instanceMethod y_Sw_endLongTurns) ∈ WS := WS_of 755 (by decide +kernel) (by decide +kernel)
theorem k_756 : (Jvm.Cond.selects "TrunkCells$Switchboard" y_Sw_endLongTurns y_Sw_endLongTurns) ∈ WS := WS_of 756 (by decide +kernel) (by decide +kernel)
theorem nk_116 : (Jvm.Cond.fieldLinkNest "TrunkCells" (47 : Nat) "TrunkCells$Switchboard" "keys" "[I" "TrunkCells") ∈ NW := NW_of 116 (by decide +kernel) (by decide +kernel)
theorem nk_120 : (Jvm.Cond.fieldLinkNest "TrunkCells" (58 : Nat) "TrunkCells$Switchboard" "memberships" "[I" "TrunkCells") ∈ NW := NW_of 120 (by decide +kernel) (by decide +kernel)
theorem nk_171 : (Jvm.Cond.fieldLinkNest "TrunkCells" (44 : Nat) "TrunkCells$Mobile" "key" "I" "TrunkCells") ∈ NW := NW_of 171 (by decide +kernel) (by decide +kernel)
theorem nk_173 : (Jvm.Cond.fieldLinkNest "TrunkCells" (108 : Nat) "TrunkCells$Mobile" "speech" "I" "TrunkCells") ∈ NW := NW_of 173 (by decide +kernel) (by decide +kernel)
theorem nk_178 : (Jvm.Cond.fieldLinkNest "TrunkCells" (73 : Nat) "TrunkCells$Mobile" "presses" "I" "TrunkCells") ∈ NW := NW_of 178 (by decide +kernel) (by decide +kernel)
theorem sel_TC_runControl : Cond.selects y_TC_runControl.cls y_TC_runControl y_TC_runControl ∈ WS := WS_priv (by decide +kernel) (by decide +kernel)
theorem sel_TC_runTraffic : Cond.selects y_TC_runTraffic.cls y_TC_runTraffic y_TC_runTraffic ∈ WS := WS_priv (by decide +kernel) (by decide +kernel)
theorem q_TC_draw : xCal y_TC_draw b_TC_draw 3 none 2 := ⟨k_523, k_1, by decide +kernel, by decide +kernel, by decide +kernel⟩
theorem q_TC_fault : xCal y_TC_fault b_TC_fault 4 none 2 := ⟨k_551, k_1, by decide +kernel, by decide +kernel, by decide +kernel⟩
theorem q_TC_group : xCal y_TC_group b_TC_group 3 none 2 := ⟨k_415, k_1, by decide +kernel, by decide +kernel, by decide +kernel⟩
theorem q_TC_keys : xCal y_TC_keys b_TC_keys 4 none 3 := ⟨k_337, k_1, by decide +kernel, by decide +kernel, by decide +kernel⟩
theorem q_TC_member : xCal y_TC_member b_TC_member 3 none 2 := ⟨k_422, k_1, by decide +kernel, by decide +kernel, by decide +kernel⟩
theorem q_TC_move : xCal y_TC_move b_TC_move 4 none 2 := ⟨k_429, k_1, by decide +kernel, by decide +kernel, by decide +kernel⟩
theorem q_TC_needIndex : xCal y_TC_needIndex b_TC_needIndex 2 none 2 := ⟨k_340, k_1, by decide +kernel, by decide +kernel, by decide +kernel⟩
theorem q_TC_needRoomForMessage : xCal y_TC_needRoomForMessage b_TC_needRoomForMessage 1 none 1 := ⟨k_456, k_1, by decide +kernel, by decide +kernel, by decide +kernel⟩
theorem q_TC_press : xCal y_TC_press b_TC_press 4 none 3 := ⟨k_487, k_1, by decide +kernel, by decide +kernel, by decide +kernel⟩
theorem q_TC_register : xCal y_TC_register b_TC_register 2 none 1 := ⟨k_453, k_1, by decide +kernel, by decide +kernel, by decide +kernel⟩
theorem q_TC_release : xCal y_TC_release b_TC_release 2 none 1 := ⟨k_495, k_1, by decide +kernel, by decide +kernel, by decide +kernel⟩
theorem q_TC_send : xCal y_TC_send b_TC_send 4 none 3 := ⟨k_503, k_1, by decide +kernel, by decide +kernel, by decide +kernel⟩
theorem q_TC_speak : xCal y_TC_speak b_TC_speak 3 none 2 := ⟨k_514, k_1, by decide +kernel, by decide +kernel, by decide +kernel⟩
theorem q_TC_tick : xCal y_TC_tick b_TC_tick 5 (some .int) 1 := ⟨k_559, k_1, by decide +kernel, by decide +kernel, by decide +kernel⟩
section GF
variable {p : Program} {l : Launch} {e : Env} {R : Room} {s : State} {m : MethodId} {args : Array Value} {below : List Frame} {meth : Method} {c : Code} {H : Heap} {locs : List Loc} {Q : State → Prop}
variable {cc : ByteArray} {pc nL : Nat} {ls : Array Slot} {rest : List Value} {D : va_G} {sz : Nat} {Θ : Nat → Nat} {κ : Nat → ClassId} {I : SI} {J : SJ}
theorem gfC_TC_36 (C : xC p m c cc nL s args R_TC D clA (tysA κ) 52 Θ sz) (hP : va_P D clA (xw 52 Θ (eC Θ κ) I J) H) (hdg : decode cc pc = .ok (.getfield 36, 3)) (kk : W p l e R s m args below meth c H locs 0 0 Q (F0 m (pc + 3) ls (.int (I 0 4) :: rest))) : W p l e R s m args below meth c H locs 0 0 Q (F0 m pc ls (.ref (Θ 0) :: rest)) :=
  va_get (D := D) (ci := 0) (C := R_TC) (T := F_TC) (N := 5) C.1.1 C.1.2.1 C.1.2.2.2.2 in_TC C.1.2.2.2.1 C.2.1 hP 0 (xw_at (Nat.le_of_ble_eq_true rfl) (eC_TC _ _)) rfl 4 (by decide) (C.1.2.2.2.2 _ k_222) (fun _ h9 => h9) rfl hdg kk
theorem gfC_TC_47 (C : xC p m c cc nL s args R_TC D clA (tysA κ) 52 Θ sz) (hP : va_P D clA (xw 52 Θ (eC Θ κ) I J) H) (hdg : decode cc pc = .ok (.getfield 47, 3)) (kk : W p l e R s m args below meth c H locs 0 0 Q (F0 m (pc + 3) ls (.ref (Θ 7) :: rest))) : W p l e R s m args below meth c H locs 0 0 Q (F0 m pc ls (.ref (Θ 6) :: rest)) :=
  va_getN (D := D) (ci := 2) (C := R_Sw) (T := F_Sw) (N := 5) C.1.1 C.1.2.1 C.1.2.2.2.2 in_Sw C.1.2.2.2.1 C.2.1 hP 6 (xw_at (Nat.le_of_ble_eq_true rfl) (eC_Sw _ _)) rfl 0 (by decide) (va_Nw.use rfl (C.2.2.1 _ nk_116)) (fun _ h9 => h9) rfl hdg kk
theorem gfC_TC_58 (C : xC p m c cc nL s args R_TC D clA (tysA κ) 52 Θ sz) (hP : va_P D clA (xw 52 Θ (eC Θ κ) I J) H) (hdg : decode cc pc = .ok (.getfield 58, 3)) (kk : W p l e R s m args below meth c H locs 0 0 Q (F0 m (pc + 3) ls (.ref (Θ 9) :: rest))) : W p l e R s m args below meth c H locs 0 0 Q (F0 m pc ls (.ref (Θ 6) :: rest)) :=
  va_getN (D := D) (ci := 2) (C := R_Sw) (T := F_Sw) (N := 5) C.1.1 C.1.2.1 C.1.2.2.2.2 in_Sw C.1.2.2.2.1 C.2.1 hP 6 (xw_at (Nat.le_of_ble_eq_true rfl) (eC_Sw _ _)) rfl 2 (by decide) (va_Nw.use rfl (C.2.2.1 _ nk_120)) (fun _ h9 => h9) rfl hdg kk
theorem gfC_TC_73 (C : xC p m c cc nL s args R_TC D clA (tysA κ) 52 Θ sz) (hP : va_P D clA (xw 52 Θ (eC Θ κ) I J) H) {i : Nat} (hi : i < 8) (hdg : decode cc pc = .ok (.getfield 73, 3)) (kk : W p l e R s m args below meth c H locs 0 0 Q (F0 m (pc + 3) ls (.int (I (14 + i) 7) :: rest))) : W p l e R s m args below meth c H locs 0 0 Q (F0 m pc ls (.ref (Θ (14 + i)) :: rest)) :=
  va_getN (D := D) (ci := 3) (C := R_Mo) (T := F_Mo) (N := 15) C.1.1 C.1.2.1 C.1.2.2.2.2 in_Mo C.1.2.2.2.1 C.2.1 hP (14 + i) (xw_at (xlt hi rfl) (eC_Mo hi _ _)) rfl 7 (by decide) (va_Nw.use rfl (C.2.2.1 _ nk_178)) (fun _ h9 => h9) rfl hdg kk
theorem pfC_TC_36 (C : xC p m c cc nL s args R_TC D clA (tysA κ) 52 Θ sz) (hΘ : xJ 52 Θ) (hP : va_P D clA (xw 52 Θ (eC Θ κ) I J) H) (hS : va_S (xA 52 Θ sz) s.heap H locs) {v : Int32} (hdg : decode cc pc = .ok (.putfield 36, 3)) (kk : ∀ (H1 : Heap) (locs1 : List Loc), va_P D clA (xw 52 Θ (eC Θ κ) (xu I 0 4 v) J) H1 → va_S (xA 52 Θ sz) s.heap H1 locs1 → W p l e R s m args below meth c H1 locs1 0 0 Q (F0 m (pc + 3) ls rest)) : W p l e R s m args below meth c H locs 0 0 Q (F0 m pc ls (.int v :: .ref (Θ 0) :: rest)) := by
  refine va_put (D := D) (ci := 0) (v := .int v) (ty := .int) (C := R_TC) (T := F_TC) (N := 5) C.1.1 C.1.2.1 C.1.2.2.2.2 in_TC t_TC t_TC_ok n_TC C.1.2.2.2.1 C.2.1 hP (xw_D hΘ) hS 0 (xw_at (Nat.le_of_ble_eq_true rfl) (eC_TC _ _)) rfl 4 (by decide) (C.1.2.2.2.2 _ k_222) (fun _ h9 => h9) rfl (by decide +kernel) rfl rfl (Nat.le_of_ble_eq_true rfl) hdg (fun H1 locs1 h1 _ h3 => kk H1 locs1 ?_ h3)
  rw [xw_set (I' := xu I 0 4 v) (J' := J) (Nat.le_of_ble_eq_true rfl) (fun a ha => xu_o I 4 v ha) (fun _ _ => rfl) (by rw [eC_TC]; unfold xu; rw [xr_s]; rfl)] at h1
  exact h1
theorem pfC_TC_44 (C : xC p m c cc nL s args R_TC D clA (tysA κ) 52 Θ sz) (hΘ : xJ 52 Θ) (hP : va_P D clA (xw 52 Θ (eC Θ κ) I J) H) (hS : va_S (xA 52 Θ sz) s.heap H locs) {i : Nat} (hi : i < 8) {v : Int32} (hdg : decode cc pc = .ok (.putfield 44, 3)) (kk : ∀ (H1 : Heap) (locs1 : List Loc), va_P D clA (xw 52 Θ (eC Θ κ) (xu I (14 + i) 4 v) J) H1 → va_S (xA 52 Θ sz) s.heap H1 locs1 → W p l e R s m args below meth c H1 locs1 0 0 Q (F0 m (pc + 3) ls rest)) : W p l e R s m args below meth c H locs 0 0 Q (F0 m pc ls (.int v :: .ref (Θ (14 + i)) :: rest)) := by
  refine va_putN (D := D) (ci := 3) (v := .int v) (ty := .int) (C := R_Mo) (T := F_Mo) (N := 15) C.1.1 C.1.2.1 C.1.2.2.2.2 in_Mo t_Mo t_Mo_ok n_Mo C.1.2.2.2.1 C.2.1 hP (xw_D hΘ) hS (14 + i) (xw_at (xlt hi rfl) (eC_Mo hi _ _)) rfl 4 (by decide) (va_Nw.use rfl (C.2.2.1 _ nk_171)) (fun _ h9 => h9) rfl (by decide +kernel) rfl rfl (Nat.le_of_ble_eq_true rfl) hdg (fun H1 locs1 h1 _ h3 => kk H1 locs1 ?_ h3)
  rw [xw_set (I' := xu I (14 + i) 4 v) (J' := J) (xlt hi rfl) (fun a ha => xu_o I 4 v ha) (fun _ _ => rfl) (by rw [eC_Mo hi]; unfold xu; rw [xr_s]; rfl)] at h1
  exact h1
theorem pfC_TC_55 (C : xC p m c cc nL s args R_TC D clA (tysA κ) 52 Θ sz) (hΘ : xJ 52 Θ) (hP : va_P D clA (xw 52 Θ (eC Θ κ) I J) H) (hS : va_S (xA 52 Θ sz) s.heap H locs) {i : Nat} (hi : i < 4) {v : Int32} (hdg : decode cc pc = .ok (.putfield 55, 3)) (kk : ∀ (H1 : Heap) (locs1 : List Loc), va_P D clA (xw 52 Θ (eC Θ κ) (xu I (38 + i) 2 v) J) H1 → va_S (xA 52 Θ sz) s.heap H1 locs1 → W p l e R s m args below meth c H1 locs1 0 0 Q (F0 m (pc + 3) ls rest)) : W p l e R s m args below meth c H locs 0 0 Q (F0 m pc ls (.int v :: .ref (Θ (38 + i)) :: rest)) := by
  refine va_putN (D := D) (ci := 5) (v := .int v) (ty := .int) (C := R_Gr) (T := F_Gr) (N := 6) C.1.1 C.1.2.1 C.1.2.2.2.2 in_Gr t_Gr t_Gr_ok n_Gr C.1.2.2.2.1 C.2.1 hP (xw_D hΘ) hS (38 + i) (xw_at (xlt hi rfl) (eC_Gr hi _ _)) rfl 2 (by decide) (va_Nw.use rfl (C.2.2.1 _ nk_81)) (fun _ h9 => h9) rfl (by decide +kernel) rfl rfl (Nat.le_of_ble_eq_true rfl) hdg (fun H1 locs1 h1 _ h3 => kk H1 locs1 ?_ h3)
  rw [xw_set (I' := xu I (38 + i) 2 v) (J' := J) (xlt hi rfl) (fun a ha => xu_o I 2 v ha) (fun _ _ => rfl) (by rw [eC_Gr hi]; unfold xu; rw [xr_s]; rfl)] at h1
  exact h1
theorem pfC_TC_61 (C : xC p m c cc nL s args R_TC D clA (tysA κ) 52 Θ sz) (hΘ : xJ 52 Θ) (hP : va_P D clA (xw 52 Θ (eC Θ κ) I J) H) (hS : va_S (xA 52 Θ sz) s.heap H locs) {i : Nat} (hi : i < 8) {v : Int32} (hdg : decode cc pc = .ok (.putfield 61, 3)) (kk : ∀ (H1 : Heap) (locs1 : List Loc), va_P D clA (xw 52 Θ (eC Θ κ) (xu I (14 + i) 6 v) J) H1 → va_S (xA 52 Θ sz) s.heap H1 locs1 → W p l e R s m args below meth c H1 locs1 0 0 Q (F0 m (pc + 3) ls rest)) : W p l e R s m args below meth c H locs 0 0 Q (F0 m pc ls (.int v :: .ref (Θ (14 + i)) :: rest)) := by
  refine va_putN (D := D) (ci := 3) (v := .int v) (ty := .int) (C := R_Mo) (T := F_Mo) (N := 15) C.1.1 C.1.2.1 C.1.2.2.2.2 in_Mo t_Mo t_Mo_ok n_Mo C.1.2.2.2.1 C.2.1 hP (xw_D hΘ) hS (14 + i) (xw_at (xlt hi rfl) (eC_Mo hi _ _)) rfl 6 (by decide) (va_Nw.use rfl (C.2.2.1 _ nk_176)) (fun _ h9 => h9) rfl (by decide +kernel) rfl rfl (Nat.le_of_ble_eq_true rfl) hdg (fun H1 locs1 h1 _ h3 => kk H1 locs1 ?_ h3)
  rw [xw_set (I' := xu I (14 + i) 6 v) (J' := J) (xlt hi rfl) (fun a ha => xu_o I 6 v ha) (fun _ _ => rfl) (by rw [eC_Mo hi]; unfold xu; rw [xr_s]; rfl)] at h1
  exact h1
theorem pfC_TC_73 (C : xC p m c cc nL s args R_TC D clA (tysA κ) 52 Θ sz) (hΘ : xJ 52 Θ) (hP : va_P D clA (xw 52 Θ (eC Θ κ) I J) H) (hS : va_S (xA 52 Θ sz) s.heap H locs) {i : Nat} (hi : i < 8) {v : Int32} (hdg : decode cc pc = .ok (.putfield 73, 3)) (kk : ∀ (H1 : Heap) (locs1 : List Loc), va_P D clA (xw 52 Θ (eC Θ κ) (xu I (14 + i) 7 v) J) H1 → va_S (xA 52 Θ sz) s.heap H1 locs1 → W p l e R s m args below meth c H1 locs1 0 0 Q (F0 m (pc + 3) ls rest)) : W p l e R s m args below meth c H locs 0 0 Q (F0 m pc ls (.int v :: .ref (Θ (14 + i)) :: rest)) := by
  refine va_putN (D := D) (ci := 3) (v := .int v) (ty := .int) (C := R_Mo) (T := F_Mo) (N := 15) C.1.1 C.1.2.1 C.1.2.2.2.2 in_Mo t_Mo t_Mo_ok n_Mo C.1.2.2.2.1 C.2.1 hP (xw_D hΘ) hS (14 + i) (xw_at (xlt hi rfl) (eC_Mo hi _ _)) rfl 7 (by decide) (va_Nw.use rfl (C.2.2.1 _ nk_178)) (fun _ h9 => h9) rfl (by decide +kernel) rfl rfl (Nat.le_of_ble_eq_true rfl) hdg (fun H1 locs1 h1 _ h3 => kk H1 locs1 ?_ h3)
  rw [xw_set (I' := xu I (14 + i) 7 v) (J' := J) (xlt hi rfl) (fun a ha => xu_o I 7 v ha) (fun _ _ => rfl) (by rw [eC_Mo hi]; unfold xu; rw [xr_s]; rfl)] at h1
  exact h1
theorem pfC_TC_108 (C : xC p m c cc nL s args R_TC D clA (tysA κ) 52 Θ sz) (hΘ : xJ 52 Θ) (hP : va_P D clA (xw 52 Θ (eC Θ κ) I J) H) (hS : va_S (xA 52 Θ sz) s.heap H locs) {i : Nat} (hi : i < 8) {v : Int32} (hdg : decode cc pc = .ok (.putfield 108, 3)) (kk : ∀ (H1 : Heap) (locs1 : List Loc), va_P D clA (xw 52 Θ (eC Θ κ) (xu I (14 + i) 5 v) J) H1 → va_S (xA 52 Θ sz) s.heap H1 locs1 → W p l e R s m args below meth c H1 locs1 0 0 Q (F0 m (pc + 3) ls rest)) : W p l e R s m args below meth c H locs 0 0 Q (F0 m pc ls (.int v :: .ref (Θ (14 + i)) :: rest)) := by
  refine va_putN (D := D) (ci := 3) (v := .int v) (ty := .int) (C := R_Mo) (T := F_Mo) (N := 15) C.1.1 C.1.2.1 C.1.2.2.2.2 in_Mo t_Mo t_Mo_ok n_Mo C.1.2.2.2.1 C.2.1 hP (xw_D hΘ) hS (14 + i) (xw_at (xlt hi rfl) (eC_Mo hi _ _)) rfl 5 (by decide) (va_Nw.use rfl (C.2.2.1 _ nk_173)) (fun _ h9 => h9) rfl (by decide +kernel) rfl rfl (Nat.le_of_ble_eq_true rfl) hdg (fun H1 locs1 h1 _ h3 => kk H1 locs1 ?_ h3)
  rw [xw_set (I' := xu I (14 + i) 5 v) (J' := J) (xlt hi rfl) (fun a ha => xu_o I 5 v ha) (fun _ _ => rfl) (by rw [eC_Mo hi]; unfold xu; rw [xr_s]; rfl)] at h1
  exact h1
end GF
