theorem k_26 : (Jvm.Cond.instanceMethod (⟨"java/lang/Object", "<init>", "()V"⟩ : MethodName)) ∈ WS := WS_of 26 (by decide +kernel) (by decide +kernel)
theorem k_27 : (Jvm.Cond.code (⟨"java/lang/Object", "<init>", "()V"⟩ : MethodName) object_method_1_code (1 : Nat) (Option.none : Option Jvm.ClassFile.FieldType)) ∈ WS := WS_of 27 (by decide +kernel) (by decide +kernel)
theorem k_147 : (Jvm.Cond.code y_Me_init prog_6_method_1_code (1 : Nat) (Option.none : Option Jvm.ClassFile.FieldType)) ∈ WS := WS_of 147 (by decide +kernel) (by decide +kernel)
theorem k_148 : (Jvm.Cond.methodLink "TrunkCells$Message" (1 : Nat) (⟨"java/lang/Object", "<init>", "()V"⟩ : MethodName)) ∈ WS := WS_of 148 (by decide +kernel) (by decide +kernel)
theorem q_Me_init : xCal y_Me_init b_Me_init 1 none 0 := ⟨k_147, k_9, by decide +kernel, by decide +kernel, by decide +kernel⟩
theorem d_Me_init_0 : decode b_Me_init 0 = .ok (.aload_n 0, 1) := by decide +kernel
theorem d_Me_init_1 : decode b_Me_init 1 = .ok (.invokespecial 1, 3) := by decide +kernel
theorem d_Me_init_4 : decode b_Me_init 4 = .ok (.return_, 1) := by decide +kernel
abbrev rm_Me_init : Room := { frames := 1, cells := 0, slots := 0, locals := 12 }
set_option maxHeartbeats 4000000 in
set_option maxRecDepth 100000 in
theorem c_Me_init (l : Launch) (D : va_G) (κ : Nat → ClassId) (z sz h0 : Nat) : Met l y_Me_init WS rm_Me_init (va_Pc [.ref h0] (cPre D κ z sz [(h0, .inr (4, [.int 0, .int 0, .int 0, .int 0]))])) (cQ2 D [(h0, .inr (4, [.int 0, .int 0, .int 0, .int 0]))] sz (fun _ _ => True) (fun _ _ _ => [(h0, .inr (4, [.int 0, .int 0, .int 0, .int 0]))])) 0 0 (va_A [(h0, .inr (4, [.int 0, .int 0, .int 0, .int 0]))] sz) := by
  refine xMet (cc := b_Me_init) (maxL := 1) (ret := none) (by decide) q_Me_init.1 ?_
  intro p e s m args below meth c s₁ B hml hv
  obtain ⟨hargs, hsz, hz, hP, hK, hD0, hN, hG, hO⟩ := hv
  have hx := B.exec
  have hb := B.bytes
  have hr := B.returns
  have hlocks := B.notSynchronized
  have hts := atoms_spec (ws := WS) B.pre
  have hown : s.vm.findClass R_Me = some m.cls := findClass_of_methodNamed B.named
  have hin : meth.name = "<init>" := (name_of_methodNamed B.named B.method).1
  subst hsz
  unfold cQ2
  have hD := hD0.self (sz := s.heap.size)
  have hAz : ∀ q, va_A [(h0, .inr (4, [.int 0, .int 0, .int 0, .int 0]))] s.heap.size q → z ≤ q := fun q h => by
    rcases h with ⟨k, e, h⟩ | h
    · exact hD0.2 k _ h
    · exact Nat.le_trans hz h
  generalize hAe : va_A [(h0, .inr (4, [.int 0, .int 0, .int 0, .int 0]))] s.heap.size = A at hD hAz ⊢
  have hA : ∀ q : Nat, s.heap.size ≤ q → A q := fun q h => by rw [← hAe]; exact Or.inr h
  have hS : va_S A s.heap s.heap [] := va_S.rf
  have C : cC p m c b_Me_init 1 s args R_Me D κ z A := ⟨⟨hx, hb, hml, hown, hts⟩, hK, hN, hG, hO, hz, hA, hAz⟩
  have hE := lg_entry_eq m [.ref h0] 1
  rw [← hargs] at hE
  rw [hE]
  have hl := lv_entry [.ref h0] (n := 1) (Nat.le_of_ble_eq_true rfl)
  generalize (lg_sl [.ref h0] ++ List.replicate (1 - (lg_sl [.ref h0]).length) Slot.unset).toArray = ls at hl ⊢
  have hl : lv_has ls 1 [(0, .ref h0)] := hl
  refine lv_aload_n hx hb d_Me_init_0 rfl (lv_at hl 0 rfl) ?_
  refine W.objInit hx hb hown (hts _ k_148) (hts _ k_26) (hts _ k_27) rfl (by rw [hml]; exact hl.1) rfl d_Me_init_1 (Nat.le_of_ble_eq_true rfl) (Nat.le_of_ble_eq_true rfl) ?_
  refine W.eq (g2 := F0 m 4 ls []) rfl ?_
  refine W.widen (k := 0) (n := 0) (by decide) (by decide) ?_
  exact W.vret hx hb hr (fun t ht hW => ⟨⟨(fun k => [].getD k 0, fun _ _ => 0, fun _ _ => 0), rfl, trivial, by rw [ht]; exact hP, hD⟩, hS.F ht⟩) hS.2.2 d_Me_init_4 hlocks
