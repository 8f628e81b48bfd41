theorem k_141 : (Jvm.Cond.code y_Mo_init prog_7_method_1_code (2 : Nat) (Option.none : Option Jvm.ClassFile.FieldType)) ∈ WS := WS_of 141 (by decide +kernel) (by decide +kernel)
theorem k_142 : (Jvm.Cond.methodLink "TrunkCells$Mobile" (3 : Nat) (⟨"java/lang/Object", "<init>", "()V"⟩ : MethodName)) ∈ WS := WS_of 142 (by decide +kernel) (by decide +kernel)
theorem k_143 : (Jvm.Cond.classLink "TrunkCells$Mobile" (15 : Nat) "TrunkCells$Message") ∈ WS := WS_of 143 (by decide +kernel) (by decide +kernel)
theorem k_144 : (Jvm.Cond.instantiable "TrunkCells$Message" (4 : Nat)) ∈ WS := WS_of 144 (by decide +kernel) (by decide +kernel)
theorem k_146 : (Jvm.Cond.instanceMethod y_Me_init) ∈ WS := WS_of 146 (by decide +kernel) (by decide +kernel)
theorem nk_145 : (Jvm.Cond.methodLinkNest "TrunkCells$Mobile" (17 : Nat) y_Me_init "TrunkCells") ∈ NW := NW_of 145 (by decide +kernel) (by decide +kernel)
theorem q_Mo_init : xCal y_Mo_init b_Mo_init 2 none 1 := ⟨k_141, k_8, by decide +kernel, by decide +kernel, by decide +kernel⟩
theorem d_Mo_init_0 : decode b_Mo_init 0 = .ok (.aload_n 0, 1) := by decide +kernel
theorem d_Mo_init_1 : decode b_Mo_init 1 = .ok (.invokespecial 3, 3) := by decide +kernel
theorem d_Mo_init_4 : decode b_Mo_init 4 = .ok (.aload_n 0, 1) := by decide +kernel
theorem d_Mo_init_5 : decode b_Mo_init 5 = .ok (.iload_n 1, 1) := by decide +kernel
theorem d_Mo_init_6 : decode b_Mo_init 6 = .ok (.putfield 9, 3) := by decide +kernel
theorem d_Mo_init_9 : decode b_Mo_init 9 = .ok (.aload_n 0, 1) := by decide +kernel
theorem d_Mo_init_10 : decode b_Mo_init 10 = .ok (.new 15, 3) := by decide +kernel
theorem d_Mo_init_13 : decode b_Mo_init 13 = .ok (.dup, 1) := by decide +kernel
theorem d_Mo_init_14 : decode b_Mo_init 14 = .ok (.invokespecial 17, 3) := by decide +kernel
theorem d_Mo_init_17 : decode b_Mo_init 17 = .ok (.putfield 18, 3) := by decide +kernel
theorem d_Mo_init_20 : decode b_Mo_init 20 = .ok (.aload_n 0, 1) := by decide +kernel
theorem d_Mo_init_21 : decode b_Mo_init 21 = .ok (.bipush (8), 2) := by decide +kernel
theorem d_Mo_init_23 : decode b_Mo_init 23 = .ok (.newarray .int, 2) := by decide +kernel
theorem d_Mo_init_25 : decode b_Mo_init 25 = .ok (.putfield 22, 3) := by decide +kernel
theorem d_Mo_init_28 : decode b_Mo_init 28 = .ok (.aload_n 0, 1) := by decide +kernel
theorem d_Mo_init_29 : decode b_Mo_init 29 = .ok (.iconst (-1), 1) := by decide +kernel
theorem d_Mo_init_30 : decode b_Mo_init 30 = .ok (.putfield 26, 3) := by decide +kernel
theorem d_Mo_init_33 : decode b_Mo_init 33 = .ok (.aload_n 0, 1) := by decide +kernel
theorem d_Mo_init_34 : decode b_Mo_init 34 = .ok (.iconst (-1), 1) := by decide +kernel
theorem d_Mo_init_35 : decode b_Mo_init 35 = .ok (.putfield 29, 3) := by decide +kernel
theorem d_Mo_init_38 : decode b_Mo_init 38 = .ok (.aload_n 0, 1) := by decide +kernel
theorem d_Mo_init_39 : decode b_Mo_init 39 = .ok (.iconst (0), 1) := by decide +kernel
theorem d_Mo_init_40 : decode b_Mo_init 40 = .ok (.putfield 32, 3) := by decide +kernel
theorem d_Mo_init_43 : decode b_Mo_init 43 = .ok (.aload_n 0, 1) := by decide +kernel
theorem d_Mo_init_44 : decode b_Mo_init 44 = .ok (.iconst (-1), 1) := by decide +kernel
theorem d_Mo_init_45 : decode b_Mo_init 45 = .ok (.putfield 35, 3) := by decide +kernel
theorem d_Mo_init_48 : decode b_Mo_init 48 = .ok (.aload_n 0, 1) := by decide +kernel
theorem d_Mo_init_49 : decode b_Mo_init 49 = .ok (.iconst (-1), 1) := by decide +kernel
theorem d_Mo_init_50 : decode b_Mo_init 50 = .ok (.putfield 38, 3) := by decide +kernel
theorem d_Mo_init_53 : decode b_Mo_init 53 = .ok (.aload_n 0, 1) := by decide +kernel
theorem d_Mo_init_54 : decode b_Mo_init 54 = .ok (.iconst (-1), 1) := by decide +kernel
theorem d_Mo_init_55 : decode b_Mo_init 55 = .ok (.putfield 41, 3) := by decide +kernel
theorem d_Mo_init_58 : decode b_Mo_init 58 = .ok (.aload_n 0, 1) := by decide +kernel
theorem d_Mo_init_59 : decode b_Mo_init 59 = .ok (.iconst (-1), 1) := by decide +kernel
theorem d_Mo_init_60 : decode b_Mo_init 60 = .ok (.putfield 44, 3) := by decide +kernel
theorem d_Mo_init_63 : decode b_Mo_init 63 = .ok (.return_, 1) := by decide +kernel
abbrev rm_Mo_init : Room := { frames := 2, cells := 2, slots := 12, locals := 32 }
set_option maxHeartbeats 4000000 in
set_option maxRecDepth 100000 in
theorem c_Mo_init (l : Launch) (D : va_G) (κ : Nat → ClassId) (z sz h0 : Nat) (p1 : Int32) : Met l y_Mo_init WS rm_Mo_init (va_Pc [.ref h0, .int p1] (cPre D κ z sz [(h0, .inr (3, [.int 0, .null, .null, .int 0, .int 0, .int 0, .int 0, .int 0, .int 0, .int 0, .int 0, .int 0, .int 0, .int 0, .int 0]))])) (cQ2 D [(h0, .inr (3, [.int 0, .null, .null, .int 0, .int 0, .int 0, .int 0, .int 0, .int 0, .int 0, .int 0, .int 0, .int 0, .int 0, .int 0]))] sz (fun _ _ => True) (fun Θ _ _ => [(h0, .inr (3, [.int p1, .ref (Θ 0), .ref (Θ 1), .int 0, .int 0, .int 0, .int (-1 : Int32), .int (-1 : Int32), .int (0 : Int32), .int (-1 : Int32), .int (-1 : Int32), .int 0, .int (-1 : Int32), .int 0, .int (-1 : Int32)])), ((Θ 0), .inr (4, [.int 0, .int 0, .int 0, .int 0])), ((Θ 1), .inl (κ 0, 8, .inl (fun _ => 0)))])) 2 12 (va_A [(h0, .inr (3, [.int 0, .null, .null, .int 0, .int 0, .int 0, .int 0, .int 0, .int 0, .int 0, .int 0, .int 0, .int 0, .int 0, .int 0]))] sz) := by
  refine xMet (cc := b_Mo_init) (maxL := 2) (ret := none) (by decide) q_Mo_init.1 ?_
  intro p e s m args below meth c s₁ B hml hv
  obtain ⟨hargs, hsz, hz, hP, hK, hD0, hN, hG, hO⟩ := hv
  have hx := B.exec
  have hb := B.bytes
  have hr := B.returns
  have hlocks := B.notSynchronized
  have hts := atoms_spec (ws := WS) B.pre
  have hown : s.vm.findClass R_Mo = some m.cls := findClass_of_methodNamed B.named
  have hin : meth.name = "<init>" := (name_of_methodNamed B.named B.method).1
  subst hsz
  unfold cQ2
  have hD := hD0.self (sz := s.heap.size)
  have hAz : ∀ q, va_A [(h0, .inr (3, [.int 0, .null, .null, .int 0, .int 0, .int 0, .int 0, .int 0, .int 0, .int 0, .int 0, .int 0, .int 0, .int 0, .int 0]))] s.heap.size q → z ≤ q := fun q h => by
    rcases h with ⟨k, e, h⟩ | h
    · exact hD0.2 k _ h
    · exact Nat.le_trans hz h
  generalize hAe : va_A [(h0, .inr (3, [.int 0, .null, .null, .int 0, .int 0, .int 0, .int 0, .int 0, .int 0, .int 0, .int 0, .int 0, .int 0, .int 0, .int 0]))] s.heap.size = A at hD hAz ⊢
  have hA : ∀ q : Nat, s.heap.size ≤ q → A q := fun q h => by rw [← hAe]; exact Or.inr h
  have hS : va_S A s.heap s.heap [] := va_S.rf
  have C : cC p m c b_Mo_init 2 s args R_Mo D κ z A := ⟨⟨hx, hb, hml, hown, hts⟩, hK, hN, hG, hO, hz, hA, hAz⟩
  have hE := lg_entry_eq m [.ref h0, .int p1] 2
  rw [← hargs] at hE
  rw [hE]
  have hl := lv_entry [.ref h0, .int p1] (n := 2) (Nat.le_of_ble_eq_true rfl)
  generalize (lg_sl [.ref h0, .int p1] ++ List.replicate (2 - (lg_sl [.ref h0, .int p1]).length) Slot.unset).toArray = ls at hl ⊢
  have hl : lv_has ls 2 [(0, .ref h0), (1, .int p1)] := hl
  refine lv_aload_n hx hb d_Mo_init_0 rfl (lv_at hl 0 rfl) ?_
  refine W.objInit hx hb hown (hts _ k_142) (hts _ k_26) (hts _ k_27) rfl (by rw [hml]; exact hl.1) rfl d_Mo_init_1 (Nat.le_of_ble_eq_true rfl) (Nat.le_of_ble_eq_true rfl) ?_
  refine W.eq (g2 := F0 m 4 ls []) rfl ?_
  refine lv_aload_n hx hb d_Mo_init_4 rfl (lv_at hl 0 rfl) ?_
  refine lv_iload_n hx hb d_Mo_init_5 rfl (lv_at hl 1 rfl) ?_
  refine va_putF (D := D) (ci := 3) (v := .int p1) (C := R_Mo) (T := F_Mo) (N := 15) hx hb hts in_Mo t_Mo t_Mo_ok n_Mo hown hK hP hD hS 0 rfl rfl 0 (by decide) (hts _ k_166) (fun _ h9 => h9) rfl hin rfl (t_Mo_ok 0 (by decide)) rfl rfl (Nat.le_of_ble_eq_true rfl) d_Mo_init_6 (fun H locs hP hD hS => ?_)
  have hP : va_P D clA [(h0, .inr (3, [.int p1, .null, .null, .int 0, .int 0, .int 0, .int 0, .int 0, .int 0, .int 0, .int 0, .int 0, .int 0, .int 0, .int 0]))] H := hP
  have hD : va_D A [(h0, .inr (3, [.int p1, .null, .null, .int 0, .int 0, .int 0, .int 0, .int 0, .int 0, .int 0, .int 0, .int 0, .int 0, .int 0, .int 0]))] := hD
  refine lv_aload_n hx hb d_Mo_init_9 rfl (lv_at hl 0 rfl) ?_
  refine va_new (ci := 4) (fs := [.int 0, .int 0, .int 0, .int 0]) (C := R_Me) (T := F_Me) (N := 4) hx hb hts in_Me t_Me t_Me_ok hown (hts _ k_143) (hts _ k_144) (hts _ k_9) hK hP hD hS hA rfl (fun j hj => by rcases (show j = 0 ∨ j = 1 ∨ j = 2 ∨ j = 3 by omega) with rfl | rfl | rfl | rfl <;> rfl) (Nat.le_of_ble_eq_true rfl) (Nat.le_of_ble_eq_true rfl) d_Mo_init_10 (fun q10_1 H hP hD hS => ?_)
  have hP : va_P D clA [(h0, .inr (3, [.int p1, .null, .null, .int 0, .int 0, .int 0, .int 0, .int 0, .int 0, .int 0, .int 0, .int 0, .int 0, .int 0, .int 0])), (q10_1, .inr (4, [.int 0, .int 0, .int 0, .int 0]))] H := hP
  have hD : va_D A [(h0, .inr (3, [.int p1, .null, .null, .int 0, .int 0, .int 0, .int 0, .int 0, .int 0, .int 0, .int 0, .int 0, .int 0, .int 0, .int 0])), (q10_1, .inr (4, [.int 0, .int 0, .int 0, .int 0]))] := hD
  refine lv_dup hx hb d_Mo_init_13 rfl ?_
  refine y_callIN (wc := [(q10_1, .inr (4, [.int 0, .int 0, .int 0, .int 0]))]) (wr := [(h0, .inr (3, [.int p1, .null, .null, .int 0, .int 0, .int 0, .int 0, .int 0, .int 0, .int 0, .int 0, .int 0, .int 0, .int 0, .int 0]))]) (As := []) (rest := [.ref q10_1, .ref h0]) C hP hD hS [1] [0] rfl (by decide) rfl (by decide) (by decide) (c_Me_init l D κ z H.size q10_1) q_Me_init rfl k_146 nk_145 rfl rfl ⟨(Nat.le_of_ble_eq_true rfl), (Nat.le_of_ble_eq_true rfl)⟩ rfl hl.1 rfl (Nat.le_of_ble_eq_true rfl) d_Mo_init_14 ⟨(Nat.le_of_ble_eq_true rfl), (Nat.le_of_ble_eq_true rfl)⟩ (fun T2 I2 J2 H locs hp2 hP hD hS => ?_)
  have hP : va_P D clA [(h0, .inr (3, [.int p1, .null, .null, .int 0, .int 0, .int 0, .int 0, .int 0, .int 0, .int 0, .int 0, .int 0, .int 0, .int 0, .int 0])), (q10_1, .inr (4, [.int 0, .int 0, .int 0, .int 0]))] H := hP
  have hD : va_D A [(h0, .inr (3, [.int p1, .null, .null, .int 0, .int 0, .int 0, .int 0, .int 0, .int 0, .int 0, .int 0, .int 0, .int 0, .int 0, .int 0])), (q10_1, .inr (4, [.int 0, .int 0, .int 0, .int 0]))] := hD
  refine va_putF (D := D) (ci := 3) (v := .ref q10_1) (C := R_Mo) (T := F_Mo) (N := 15) hx hb hts in_Mo t_Mo t_Mo_ok n_Mo hown hK hP hD hS 0 rfl rfl 1 (by decide) (hts _ k_167) (fun _ h9 => h9) rfl hin rfl (t_Mo_ok 1 (by decide)) rfl rfl (Nat.le_of_ble_eq_true rfl) d_Mo_init_17 (fun H locs hP hD hS => ?_)
  have hP : va_P D clA [(h0, .inr (3, [.int p1, .ref q10_1, .null, .int 0, .int 0, .int 0, .int 0, .int 0, .int 0, .int 0, .int 0, .int 0, .int 0, .int 0, .int 0])), (q10_1, .inr (4, [.int 0, .int 0, .int 0, .int 0]))] H := hP
  have hD : va_D A [(h0, .inr (3, [.int p1, .ref q10_1, .null, .int 0, .int 0, .int 0, .int 0, .int 0, .int 0, .int 0, .int 0, .int 0, .int 0, .int 0, .int 0])), (q10_1, .inr (4, [.int 0, .int 0, .int 0, .int 0]))] := hD
  refine lv_aload_n hx hb d_Mo_init_20 rfl (lv_at hl 0 rfl) ?_
  refine lv_bipush (v := (8 : Int32)) hx hb d_Mo_init_21 (by decide) ?_
  refine y_newI hx hb (hts _ k_57) 0 hK rfl hP hD hS hA (k := (8 : Int32)) (N := 8) (by decide) (by decide) (by decide) (Nat.le_of_ble_eq_true rfl) (Nat.le_of_ble_eq_true rfl) d_Mo_init_23 (fun q23 H hP hD hS => ?_)
  have hP : va_P D clA [(h0, .inr (3, [.int p1, .ref q10_1, .null, .int 0, .int 0, .int 0, .int 0, .int 0, .int 0, .int 0, .int 0, .int 0, .int 0, .int 0, .int 0])), (q10_1, .inr (4, [.int 0, .int 0, .int 0, .int 0])), (q23, .inl (κ 0, 8, .inl (fun _ => 0)))] H := hP
  have hD : va_D A [(h0, .inr (3, [.int p1, .ref q10_1, .null, .int 0, .int 0, .int 0, .int 0, .int 0, .int 0, .int 0, .int 0, .int 0, .int 0, .int 0, .int 0])), (q10_1, .inr (4, [.int 0, .int 0, .int 0, .int 0])), (q23, .inl (κ 0, 8, .inl (fun _ => 0)))] := hD
  refine va_putF (D := D) (ci := 3) (v := .ref q23) (C := R_Mo) (T := F_Mo) (N := 15) hx hb hts in_Mo t_Mo t_Mo_ok n_Mo hown hK hP hD hS 0 rfl rfl 2 (by decide) (hts _ k_169) (fun _ h9 => h9) rfl hin rfl (t_Mo_ok 2 (by decide)) rfl rfl (Nat.le_of_ble_eq_true rfl) d_Mo_init_25 (fun H locs hP hD hS => ?_)
  have hP : va_P D clA [(h0, .inr (3, [.int p1, .ref q10_1, .ref q23, .int 0, .int 0, .int 0, .int 0, .int 0, .int 0, .int 0, .int 0, .int 0, .int 0, .int 0, .int 0])), (q10_1, .inr (4, [.int 0, .int 0, .int 0, .int 0])), (q23, .inl (κ 0, 8, .inl (fun _ => 0)))] H := hP
  have hD : va_D A [(h0, .inr (3, [.int p1, .ref q10_1, .ref q23, .int 0, .int 0, .int 0, .int 0, .int 0, .int 0, .int 0, .int 0, .int 0, .int 0, .int 0, .int 0])), (q10_1, .inr (4, [.int 0, .int 0, .int 0, .int 0])), (q23, .inl (κ 0, 8, .inl (fun _ => 0)))] := hD
  refine lv_aload_n hx hb d_Mo_init_28 rfl (lv_at hl 0 rfl) ?_
  refine lv_iconst (v := (-1 : Int32)) hx hb d_Mo_init_29 (by decide) ?_
  refine va_put (D := D) (ci := 3) (v := .int (-1 : Int32)) (C := R_Mo) (T := F_Mo) (N := 15) hx hb hts in_Mo t_Mo t_Mo_ok n_Mo hown hK hP hD hS 0 rfl rfl 6 (by decide) (hts _ k_175) (fun _ h9 => h9) rfl (t_Mo_ok 6 (by decide)) rfl rfl (Nat.le_of_ble_eq_true rfl) d_Mo_init_30 (fun H locs hP hD hS => ?_)
  have hP : va_P D clA [(h0, .inr (3, [.int p1, .ref q10_1, .ref q23, .int 0, .int 0, .int 0, .int (-1 : Int32), .int 0, .int 0, .int 0, .int 0, .int 0, .int 0, .int 0, .int 0])), (q10_1, .inr (4, [.int 0, .int 0, .int 0, .int 0])), (q23, .inl (κ 0, 8, .inl (fun _ => 0)))] H := hP
  have hD : va_D A [(h0, .inr (3, [.int p1, .ref q10_1, .ref q23, .int 0, .int 0, .int 0, .int (-1 : Int32), .int 0, .int 0, .int 0, .int 0, .int 0, .int 0, .int 0, .int 0])), (q10_1, .inr (4, [.int 0, .int 0, .int 0, .int 0])), (q23, .inl (κ 0, 8, .inl (fun _ => 0)))] := hD
  refine lv_aload_n hx hb d_Mo_init_33 rfl (lv_at hl 0 rfl) ?_
  refine lv_iconst (v := (-1 : Int32)) hx hb d_Mo_init_34 (by decide) ?_
  refine va_put (D := D) (ci := 3) (v := .int (-1 : Int32)) (C := R_Mo) (T := F_Mo) (N := 15) hx hb hts in_Mo t_Mo t_Mo_ok n_Mo hown hK hP hD hS 0 rfl rfl 7 (by decide) (hts _ k_177) (fun _ h9 => h9) rfl (t_Mo_ok 7 (by decide)) rfl rfl (Nat.le_of_ble_eq_true rfl) d_Mo_init_35 (fun H locs hP hD hS => ?_)
  have hP : va_P D clA [(h0, .inr (3, [.int p1, .ref q10_1, .ref q23, .int 0, .int 0, .int 0, .int (-1 : Int32), .int (-1 : Int32), .int 0, .int 0, .int 0, .int 0, .int 0, .int 0, .int 0])), (q10_1, .inr (4, [.int 0, .int 0, .int 0, .int 0])), (q23, .inl (κ 0, 8, .inl (fun _ => 0)))] H := hP
  have hD : va_D A [(h0, .inr (3, [.int p1, .ref q10_1, .ref q23, .int 0, .int 0, .int 0, .int (-1 : Int32), .int (-1 : Int32), .int 0, .int 0, .int 0, .int 0, .int 0, .int 0, .int 0])), (q10_1, .inr (4, [.int 0, .int 0, .int 0, .int 0])), (q23, .inl (κ 0, 8, .inl (fun _ => 0)))] := hD
  refine lv_aload_n hx hb d_Mo_init_38 rfl (lv_at hl 0 rfl) ?_
  refine lv_iconst (v := (0 : Int32)) hx hb d_Mo_init_39 (by decide) ?_
  refine va_put (D := D) (ci := 3) (v := .int (0 : Int32)) (C := R_Mo) (T := F_Mo) (N := 15) hx hb hts in_Mo t_Mo t_Mo_ok n_Mo hown hK hP hD hS 0 rfl rfl 8 (by decide) (hts _ k_179) (fun _ h9 => h9) rfl (t_Mo_ok 8 (by decide)) rfl rfl (Nat.le_of_ble_eq_true rfl) d_Mo_init_40 (fun H locs hP hD hS => ?_)
  have hP : va_P D clA [(h0, .inr (3, [.int p1, .ref q10_1, .ref q23, .int 0, .int 0, .int 0, .int (-1 : Int32), .int (-1 : Int32), .int (0 : Int32), .int 0, .int 0, .int 0, .int 0, .int 0, .int 0])), (q10_1, .inr (4, [.int 0, .int 0, .int 0, .int 0])), (q23, .inl (κ 0, 8, .inl (fun _ => 0)))] H := hP
  have hD : va_D A [(h0, .inr (3, [.int p1, .ref q10_1, .ref q23, .int 0, .int 0, .int 0, .int (-1 : Int32), .int (-1 : Int32), .int (0 : Int32), .int 0, .int 0, .int 0, .int 0, .int 0, .int 0])), (q10_1, .inr (4, [.int 0, .int 0, .int 0, .int 0])), (q23, .inl (κ 0, 8, .inl (fun _ => 0)))] := hD
  refine lv_aload_n hx hb d_Mo_init_43 rfl (lv_at hl 0 rfl) ?_
  refine lv_iconst (v := (-1 : Int32)) hx hb d_Mo_init_44 (by decide) ?_
  refine va_put (D := D) (ci := 3) (v := .int (-1 : Int32)) (C := R_Mo) (T := F_Mo) (N := 15) hx hb hts in_Mo t_Mo t_Mo_ok n_Mo hown hK hP hD hS 0 rfl rfl 9 (by decide) (hts _ k_180) (fun _ h9 => h9) rfl (t_Mo_ok 9 (by decide)) rfl rfl (Nat.le_of_ble_eq_true rfl) d_Mo_init_45 (fun H locs hP hD hS => ?_)
  have hP : va_P D clA [(h0, .inr (3, [.int p1, .ref q10_1, .ref q23, .int 0, .int 0, .int 0, .int (-1 : Int32), .int (-1 : Int32), .int (0 : Int32), .int (-1 : Int32), .int 0, .int 0, .int 0, .int 0, .int 0])), (q10_1, .inr (4, [.int 0, .int 0, .int 0, .int 0])), (q23, .inl (κ 0, 8, .inl (fun _ => 0)))] H := hP
  have hD : va_D A [(h0, .inr (3, [.int p1, .ref q10_1, .ref q23, .int 0, .int 0, .int 0, .int (-1 : Int32), .int (-1 : Int32), .int (0 : Int32), .int (-1 : Int32), .int 0, .int 0, .int 0, .int 0, .int 0])), (q10_1, .inr (4, [.int 0, .int 0, .int 0, .int 0])), (q23, .inl (κ 0, 8, .inl (fun _ => 0)))] := hD
  refine lv_aload_n hx hb d_Mo_init_48 rfl (lv_at hl 0 rfl) ?_
  refine lv_iconst (v := (-1 : Int32)) hx hb d_Mo_init_49 (by decide) ?_
  refine va_put (D := D) (ci := 3) (v := .int (-1 : Int32)) (C := R_Mo) (T := F_Mo) (N := 15) hx hb hts in_Mo t_Mo t_Mo_ok n_Mo hown hK hP hD hS 0 rfl rfl 10 (by decide) (hts _ k_181) (fun _ h9 => h9) rfl (t_Mo_ok 10 (by decide)) rfl rfl (Nat.le_of_ble_eq_true rfl) d_Mo_init_50 (fun H locs hP hD hS => ?_)
  have hP : va_P D clA [(h0, .inr (3, [.int p1, .ref q10_1, .ref q23, .int 0, .int 0, .int 0, .int (-1 : Int32), .int (-1 : Int32), .int (0 : Int32), .int (-1 : Int32), .int (-1 : Int32), .int 0, .int 0, .int 0, .int 0])), (q10_1, .inr (4, [.int 0, .int 0, .int 0, .int 0])), (q23, .inl (κ 0, 8, .inl (fun _ => 0)))] H := hP
  have hD : va_D A [(h0, .inr (3, [.int p1, .ref q10_1, .ref q23, .int 0, .int 0, .int 0, .int (-1 : Int32), .int (-1 : Int32), .int (0 : Int32), .int (-1 : Int32), .int (-1 : Int32), .int 0, .int 0, .int 0, .int 0])), (q10_1, .inr (4, [.int 0, .int 0, .int 0, .int 0])), (q23, .inl (κ 0, 8, .inl (fun _ => 0)))] := hD
  refine lv_aload_n hx hb d_Mo_init_53 rfl (lv_at hl 0 rfl) ?_
  refine lv_iconst (v := (-1 : Int32)) hx hb d_Mo_init_54 (by decide) ?_
  refine va_put (D := D) (ci := 3) (v := .int (-1 : Int32)) (C := R_Mo) (T := F_Mo) (N := 15) hx hb hts in_Mo t_Mo t_Mo_ok n_Mo hown hK hP hD hS 0 rfl rfl 12 (by decide) (hts _ k_184) (fun _ h9 => h9) rfl (t_Mo_ok 12 (by decide)) rfl rfl (Nat.le_of_ble_eq_true rfl) d_Mo_init_55 (fun H locs hP hD hS => ?_)
  have hP : va_P D clA [(h0, .inr (3, [.int p1, .ref q10_1, .ref q23, .int 0, .int 0, .int 0, .int (-1 : Int32), .int (-1 : Int32), .int (0 : Int32), .int (-1 : Int32), .int (-1 : Int32), .int 0, .int (-1 : Int32), .int 0, .int 0])), (q10_1, .inr (4, [.int 0, .int 0, .int 0, .int 0])), (q23, .inl (κ 0, 8, .inl (fun _ => 0)))] H := hP
  have hD : va_D A [(h0, .inr (3, [.int p1, .ref q10_1, .ref q23, .int 0, .int 0, .int 0, .int (-1 : Int32), .int (-1 : Int32), .int (0 : Int32), .int (-1 : Int32), .int (-1 : Int32), .int 0, .int (-1 : Int32), .int 0, .int 0])), (q10_1, .inr (4, [.int 0, .int 0, .int 0, .int 0])), (q23, .inl (κ 0, 8, .inl (fun _ => 0)))] := hD
  refine lv_aload_n hx hb d_Mo_init_58 rfl (lv_at hl 0 rfl) ?_
  refine lv_iconst (v := (-1 : Int32)) hx hb d_Mo_init_59 (by decide) ?_
  refine va_put (D := D) (ci := 3) (v := .int (-1 : Int32)) (C := R_Mo) (T := F_Mo) (N := 15) hx hb hts in_Mo t_Mo t_Mo_ok n_Mo hown hK hP hD hS 0 rfl rfl 14 (by decide) (hts _ k_186) (fun _ h9 => h9) rfl (t_Mo_ok 14 (by decide)) rfl rfl (Nat.le_of_ble_eq_true rfl) d_Mo_init_60 (fun H locs hP hD hS => ?_)
  have hP : va_P D clA [(h0, .inr (3, [.int p1, .ref q10_1, .ref q23, .int 0, .int 0, .int 0, .int (-1 : Int32), .int (-1 : Int32), .int (0 : Int32), .int (-1 : Int32), .int (-1 : Int32), .int 0, .int (-1 : Int32), .int 0, .int (-1 : Int32)])), (q10_1, .inr (4, [.int 0, .int 0, .int 0, .int 0])), (q23, .inl (κ 0, 8, .inl (fun _ => 0)))] H := hP
  have hD : va_D A [(h0, .inr (3, [.int p1, .ref q10_1, .ref q23, .int 0, .int 0, .int 0, .int (-1 : Int32), .int (-1 : Int32), .int (0 : Int32), .int (-1 : Int32), .int (-1 : Int32), .int 0, .int (-1 : Int32), .int 0, .int (-1 : Int32)])), (q10_1, .inr (4, [.int 0, .int 0, .int 0, .int 0])), (q23, .inl (κ 0, 8, .inl (fun _ => 0)))] := hD
  refine W.widen (k := 2) (n := 12) (by decide) (by decide) ?_
  exact W.vret hx hb hr (fun t ht hW => ⟨⟨(fun k => [q10_1, q23].getD k 0, fun _ _ => 0, fun _ _ => 0), rfl, trivial, by rw [ht]; exact hP, hD⟩, hS.F ht⟩) hS.2.2 d_Mo_init_63 hlocks
