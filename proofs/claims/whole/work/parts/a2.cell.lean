theorem k_57 : (Jvm.Cond.arrayClass Jvm.ClassFile.FieldType.int) ∈ WS := WS_of 57 (by decide +kernel) (by decide +kernel)
theorem k_106 : (Jvm.Cond.code y_Ce_init prog_3_method_1_code (1 : Nat) (Option.none : Option Jvm.ClassFile.FieldType)) ∈ WS := WS_of 106 (by decide +kernel) (by decide +kernel)
theorem k_107 : (Jvm.Cond.methodLink "TrunkCells$Cell" (3 : Nat) (⟨"java/lang/Object", "<init>", "()V"⟩ : MethodName)) ∈ WS := WS_of 107 (by decide +kernel) (by decide +kernel)
theorem q_Ce_init : xCal y_Ce_init b_Ce_init 1 none 0 := ⟨k_106, k_7, by decide +kernel, by decide +kernel, by decide +kernel⟩
theorem d_Ce_init_0 : decode b_Ce_init 0 = .ok (.aload_n 0, 1) := by decide +kernel
theorem d_Ce_init_1 : decode b_Ce_init 1 = .ok (.invokespecial 3, 3) := by decide +kernel
theorem d_Ce_init_4 : decode b_Ce_init 4 = .ok (.aload_n 0, 1) := by decide +kernel
theorem d_Ce_init_5 : decode b_Ce_init 5 = .ok (.bipush (8), 2) := by decide +kernel
theorem d_Ce_init_7 : decode b_Ce_init 7 = .ok (.newarray .int, 2) := by decide +kernel
theorem d_Ce_init_9 : decode b_Ce_init 9 = .ok (.putfield 9, 3) := by decide +kernel
theorem d_Ce_init_12 : decode b_Ce_init 12 = .ok (.return_, 1) := by decide +kernel
abbrev rm_Ce_init : Room := { frames := 1, cells := 1, slots := 8, locals := 12 }
set_option maxHeartbeats 4000000 in
set_option maxRecDepth 100000 in
theorem c_Ce_init (l : Launch) (D : va_G) (κ : Nat → ClassId) (z sz h0 : Nat) : Met l y_Ce_init WS rm_Ce_init (va_Pc [.ref h0] (cPre D κ z sz [(h0, .inr (6, [.null, .int 0]))])) (cQ2 D [(h0, .inr (6, [.null, .int 0]))] sz (fun _ _ => True) (fun Θ _ _ => [(h0, .inr (6, [.ref (Θ 0), .int 0])), ((Θ 0), .inl (κ 0, 8, .inl (fun _ => 0)))])) 1 8 (va_A [(h0, .inr (6, [.null, .int 0]))] sz) := by
  refine xMet (cc := b_Ce_init) (maxL := 1) (ret := none) (by decide) q_Ce_init.1 ?_
  intro p e s m args below meth c s₁ B hml hv
  obtain ⟨hargs, hsz, hz, hP, hK, hD0, hN, hG, hO⟩ := hv
  have hx := B.exec
  have hb := B.bytes
  have hr := B.returns
  have hlocks := B.notSynchronized
  have hts := atoms_spec (ws := WS) B.pre
  have hown : s.vm.findClass R_Ce = some m.cls := findClass_of_methodNamed B.named
  have hin : meth.name = "<init>" := (name_of_methodNamed B.named B.method).1
  subst hsz
  unfold cQ2
  have hD := hD0.self (sz := s.heap.size)
  have hAz : ∀ q, va_A [(h0, .inr (6, [.null, .int 0]))] s.heap.size q → z ≤ q := fun q h => by
    rcases h with ⟨k, e, h⟩ | h
    · exact hD0.2 k _ h
    · exact Nat.le_trans hz h
  generalize hAe : va_A [(h0, .inr (6, [.null, .int 0]))] s.heap.size = A at hD hAz ⊢
  have hA : ∀ q : Nat, s.heap.size ≤ q → A q := fun q h => by rw [← hAe]; exact Or.inr h
  have hS : va_S A s.heap s.heap [] := va_S.rf
  have C : cC p m c b_Ce_init 1 s args R_Ce D κ z A := ⟨⟨hx, hb, hml, hown, hts⟩, hK, hN, hG, hO, hz, hA, hAz⟩
  have hE := lg_entry_eq m [.ref h0] 1
  rw [← hargs] at hE
  rw [hE]
  have hl := lv_entry [.ref h0] (n := 1) (Nat.le_of_ble_eq_true rfl)
  generalize (lg_sl [.ref h0] ++ List.replicate (1 - (lg_sl [.ref h0]).length) Slot.unset).toArray = ls at hl ⊢
  have hl : lv_has ls 1 [(0, .ref h0)] := hl
  refine lv_aload_n hx hb d_Ce_init_0 rfl (lv_at hl 0 rfl) ?_
  refine W.objInit hx hb hown (hts _ k_107) (hts _ k_26) (hts _ k_27) rfl (by rw [hml]; exact hl.1) rfl d_Ce_init_1 (Nat.le_of_ble_eq_true rfl) (Nat.le_of_ble_eq_true rfl) ?_
  refine W.eq (g2 := F0 m 4 ls []) rfl ?_
  refine lv_aload_n hx hb d_Ce_init_4 rfl (lv_at hl 0 rfl) ?_
  refine lv_bipush (v := (8 : Int32)) hx hb d_Ce_init_5 (by decide) ?_
  refine y_newI hx hb (hts _ k_57) 0 hK rfl hP hD hS hA (k := (8 : Int32)) (N := 8) (by decide) (by decide) (by decide) (Nat.le_of_ble_eq_true rfl) (Nat.le_of_ble_eq_true rfl) d_Ce_init_7 (fun q7 H hP hD hS => ?_)
  have hP : va_P D clA [(h0, .inr (6, [.null, .int 0])), (q7, .inl (κ 0, 8, .inl (fun _ => 0)))] H := hP
  have hD : va_D A [(h0, .inr (6, [.null, .int 0])), (q7, .inl (κ 0, 8, .inl (fun _ => 0)))] := hD
  refine va_putF (D := D) (ci := 6) (v := .ref q7) (C := R_Ce) (T := F_Ce) (N := 2) hx hb hts in_Ce t_Ce t_Ce_ok n_Ce hown hK hP hD hS 0 rfl rfl 0 (by decide) (hts _ k_108) (fun _ h9 => h9) rfl hin rfl (t_Ce_ok 0 (by decide)) rfl rfl (Nat.le_of_ble_eq_true rfl) d_Ce_init_9 (fun H locs hP hD hS => ?_)
  have hP : va_P D clA [(h0, .inr (6, [.ref q7, .int 0])), (q7, .inl (κ 0, 8, .inl (fun _ => 0)))] H := hP
  have hD : va_D A [(h0, .inr (6, [.ref q7, .int 0])), (q7, .inl (κ 0, 8, .inl (fun _ => 0)))] := hD
  refine W.widen (k := 1) (n := 8) (by decide) (by decide) ?_
  exact W.vret hx hb hr (fun t ht hW => ⟨⟨(fun k => [q7].getD k 0, fun _ _ => 0, fun _ _ => 0), rfl, trivial, by rw [ht]; exact hP, hD⟩, hS.F ht⟩) hS.2.2 d_Ce_init_12 hlocks
