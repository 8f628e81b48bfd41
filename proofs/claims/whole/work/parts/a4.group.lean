theorem k_65 : (Jvm.Cond.static y_Ar_fillI) ∈ WS := WS_of 65 (by decide +kernel) (by decide +kernel)
theorem k_72 : (Jvm.Cond.code y_Gr_init prog_5_method_1_code (1 : Nat) (Option.none : Option Jvm.ClassFile.FieldType)) ∈ WS := WS_of 72 (by decide +kernel) (by decide +kernel)
theorem k_73 : (Jvm.Cond.methodLink "TrunkCells$Group" (3 : Nat) (⟨"java/lang/Object", "<init>", "()V"⟩ : MethodName)) ∈ WS := WS_of 73 (by decide +kernel) (by decide +kernel)
theorem k_74 : (Jvm.Cond.methodLink "TrunkCells$Group" (15 : Nat) y_Gr_endCall) ∈ WS := WS_of 74 (by decide +kernel) (by decide +kernel)
theorem q_Gr_init : xCal y_Gr_init b_Gr_init 1 none 0 := ⟨k_72, k_6, by decide +kernel, by decide +kernel, by decide +kernel⟩
/-! a group's call ends, inside its constructor -/
section EC
variable {p : Program} {l : Launch} {e : Env} {R : Room} {s : State} {m : MethodId} {args : Array Value} {below : List Frame} {meth : Method} {c : Code} {H : Heap} {locs : List Loc} {cells slots : Nat} {Q : State → Prop}
variable {cc : ByteArray} {pc nL : Nat} {ls : Array Slot} {rest st0 : List Value} {D : va_G} {κ : Nat → ClassId} {z : Nat} {A : Nat → Prop} {own : String} {index : Nat}
theorem y_endC {h q : Nat} (C : cC p m c cc nL s args own D κ z A) (hP : va_P D clA [(h, .inr (5, [.ref q, .int 0, .int 0, .int 0, .int 0, .int 0])), (q, .inl (κ 0, 6, .inl (fun _ => 0)))] H) (hD : va_D A [(h, .inr (5, [.ref q, .int 0, .int 0, .int 0, .int 0, .int 0])), (q, .inl (κ 0, 6, .inl (fun _ => 0)))]) (hS : va_S A s.heap H locs)
    (hl : Cond.methodLink own index y_Gr_endCall ∈ WS) (hRm : 0 + 1 ≤ R.frames ∧ 8 + (1 + 11) + 0 ≤ R.locals) (hsize : ls.size = nL) (hstack : st0 = .ref h :: rest) (hW : (rest.map fun v => v.category).sum ≤ 8) (hdg : decode cc pc = .ok (.invokevirtual index, 3)) (hf : cells + 0 ≤ R.cells ∧ slots + 0 ≤ R.slots)
    (kk : ∀ (H1 : Heap) (locs1 : List Loc), va_P D clA [(h, .inr (5, [.ref q, .int 0, .int 0, .int (-1 : Int32), .int (-1 : Int32), .int (-1 : Int32)])), (q, .inl (κ 0, 6, .inl (fun _ => 0)))] H1 → va_D A [(h, .inr (5, [.ref q, .int 0, .int 0, .int (-1 : Int32), .int (-1 : Int32), .int (-1 : Int32)])), (q, .inl (κ 0, 6, .inl (fun _ => 0)))] → va_S A s.heap H1 locs1 → W p l e R s m args below meth c H1 locs1 cells slots Q (F0 m (pc + 3) ls rest)) : W p l e R s m args below meth c H locs cells slots Q (F0 m pc ls st0) := by
  let Θ : Nat → Nat := fun o => if o = 0 then h else q
  let I : SI := fun _ _ => 0
  let J : SJ := fun _ _ => 0
  have C' := C
  obtain ⟨C1, hK, hN, hG, hO, hz, hA, hAz⟩ := C
  have hP' : va_P D clA (xw 2 Θ (eG Θ κ) I J) H := hP
  have hD' : va_D A (xw 2 Θ (eG Θ κ) I J) := hD
  have hΘ : xJ 2 Θ := xJ_of hD'
  have hF : ∀ q, xA 2 Θ H.size q → A q := fun q hq => va_free hD' hS hA [0, 1] rfl q ((xA_of (X := eG Θ κ) (I := I) (J := J) q).mpr hq)
  have ct := c_Gr_endCallG l D κ hΘ H.size I J (fun I' J' => I' = xu (xu (xu I 0 3 (-1)) 0 4 (-1)) 0 5 (-1)) (fun I1 e1 I2 e2 I3 e3 => by subst e1; subst e2; exact e3)
  refine va_callv (cells := cells) (slots := slots) (va_runV (C := R_Gr) (b := h) (As := []) (rest := rest) C1 ct ⟨xCB2 C1.2.2.2.2 q_Gr_endCall rfl rfl hRm hl, C1.2.2.2.2 _ k_76, C1.2.2.2.2 _ sel_Gr_endCall⟩ ⟨xPR_blind, va_recv (q0 := 0) (ci := 5) (q := (R_Gr, F_Gr, 6)) hK hP rfl rfl, y_pre C' hP' hD' hS⟩ rfl rfl hsize hstack (lv_room hW) hdg hf) hS (fun q _ h => hF q h) hF (fun u t H1 locs1 ht hvm hp hB hz1 hk1 hS1 => ?_)
  rw [ht, hp] at hB
  have hP1 : va_P D clA [(h, .inr (5, [.ref q, .int 0, .int 0, .int (-1 : Int32), .int (-1 : Int32), .int (-1 : Int32)])), (q, .inl (κ 0, 6, .inl (fun _ => 0)))] H1 := hB
  exact kk H1 locs1 hP1 (hD.set (p := 0) rfl) hS1
theorem y_fill {wr ws : va_W} {a : Nat} {f : Nat → Int32} {x : Int32} (C : cC p m c cc nL s args own D κ z A) (hP : va_P D clA ws H) (hD : va_D A ws) (hS : va_S A s.heap H locs) (isC isR : List Nat) (hC : isC.map (fun i => ws[i]?) = [some (a, .inl (κ 0, 8, .inl f))]) (hR : isR.map (fun i => ws[i]?) = wr.map some) (hn : va_nd isR = true) (hdis : ∀ i ∈ isR, i ∉ isC)
    (hl : Cond.methodLink own index y_Ar_fillI ∈ WS) (hRm : 0 + 1 ≤ R.frames ∧ 8 + (4 + 11) + 0 ≤ R.locals) (hsize : ls.size = nL) (hstack : st0 = .int x :: .ref a :: rest) (hW : (rest.map fun v => v.category).sum ≤ 8) (hdg : decode cc pc = .ok (.invokestatic index, 3)) (hf : cells + 0 ≤ R.cells ∧ slots + 0 ≤ R.slots)
    (kk : ∀ (g : Nat → Int32) (H1 : Heap) (locs1 : List Loc), (∀ k, k < 8 → g k = x) → va_P D clA (wr ++ [(a, .inl (κ 0, 8, .inl g))]) H1 → va_D A (wr ++ [(a, .inl (κ 0, 8, .inl g))]) → va_S A s.heap H1 locs1 → W p l e R s m args below meth c H1 locs1 cells slots Q (F0 m (pc + 3) ls rest)) : W p l e R s m args below meth c H locs cells slots Q (F0 m pc ls st0) := by
  let Θ : Nat → Nat := fun _ => a
  let I : SI := fun _ => f
  let J : SJ := fun _ _ => 0
  have C' := C
  obtain ⟨C1, hK, hN, hG, hO, hz, hA, hAz⟩ := C
  have hC' : isC.map (fun i => ws[i]?) = (xw 1 Θ (eF Θ κ) I J).map some := hC
  have hP' : va_P D clA (xw 1 Θ (eF Θ κ) I J) H := hP.at' isC hC'
  have hnC : va_nd isC = true := by
    rcases isC with _ | ⟨i, _ | ⟨j, t⟩⟩
    · cases hC
    · rfl
    · simp at hC
  have hD' : va_D A (xw 1 Θ (eF Θ κ) I J) := hD.sub isC hnC hC'
  have hΘ : xJ 1 Θ := xJ_of hD'
  have hFc := va_free hD hS hA isC hC'
  have hF : ∀ q, xA 1 Θ H.size q → A q := fun q hq => hFc q ((xA_of (X := eF Θ κ) (I := I) (J := J) q).mpr hq)
  have st : ∀ (k i : Nat), i + k = 8 → ∀ (I1 : SI) (J1 : SJ), (∀ j, j < i → I1 0 j = x) → p_Ar_fillIF_L5 x (fun I' _ => ∀ j, j < 8 → I' 0 j = x) (k + 1) (nI i) 8 I1 J1 := by
    intro k
    induction k with
    | zero =>
      intro i hi I1 J1 h
      have e : i = 8 := by omega
      subst e
      exact ⟨fun _ => h, fun n => absurd (by decide) n⟩
    | succ k ih =>
      intro i hi I1 J1 h
      refine ⟨fun n => absurd n (nI_ge (b := 8) (by omega) (by decide)), fun _ => ⟨i, rfl, by omega, fun I2 e2 x5 e5 => ?_⟩⟩
      rw [nI_1] at e5
      subst e2; subst e5
      refine ih (i + 1) (by omega) _ _ (fun j hj => ?_)
      by_cases e : j = i
      · subst e
        exact xu_s _ _ _ _
      · rw [xu_k _ _ _ e]
        exact h j (by omega)
  have ct := c_Ar_fillIF l D κ hΘ H.size x I J (fun I' _ => ∀ j, j < 8 → I' 0 j = x) (fun x1 e1 x2 e2 => by subst e1; subst e2; exact ⟨9, st 8 0 (by omega) I J (fun j hj => by omega)⟩)
  refine va_callv (cells := cells) (slots := slots) (va_runS (As := [.ref a, .int x]) (rest := rest) C1 ct ⟨xCB2 C1.2.2.2.2 q_Ar_fillI rfl rfl hRm hl, C1.2.2.2.2 _ k_65⟩ ⟨xPR_blind, y_pre C' hP' hD' hS⟩ rfl rfl hsize hstack (lv_room hW) hdg hf) hS (fun q _ h => hF q h) hF (fun u t H1 locs1 ht hvm hp hB hz1 hk1 hS1 => ?_)
  rw [ht] at hB
  obtain ⟨hP2, hD2⟩ := va_join (wr := wr) (w1 := xw 1 Θ (eF Θ κ) u.1 u.2) hP hD isC isR hC' hR hn hdis (fun q h1 h2 => hk1 q h1 (fun h3 => h2 ((xA_of q).mpr h3))) hFc hB ((xw_D (sz := H.size) hΘ).weaken (fun _ q _ h => (xA_of q.1).mpr h))
  exact kk (u.1 0) H1 locs1 hp hP2 hD2 hS1
end EC
theorem d_Gr_init_0 : decode b_Gr_init 0 = .ok (.aload_n 0, 1) := by decide +kernel
theorem d_Gr_init_1 : decode b_Gr_init 1 = .ok (.invokespecial 3, 3) := by decide +kernel
theorem d_Gr_init_4 : decode b_Gr_init 4 = .ok (.aload_n 0, 1) := by decide +kernel
theorem d_Gr_init_5 : decode b_Gr_init 5 = .ok (.bipush (6), 2) := by decide +kernel
theorem d_Gr_init_7 : decode b_Gr_init 7 = .ok (.newarray .int, 2) := by decide +kernel
theorem d_Gr_init_9 : decode b_Gr_init 9 = .ok (.putfield 9, 3) := by decide +kernel
theorem d_Gr_init_12 : decode b_Gr_init 12 = .ok (.aload_n 0, 1) := by decide +kernel
theorem d_Gr_init_13 : decode b_Gr_init 13 = .ok (.invokevirtual 15, 3) := by decide +kernel
theorem d_Gr_init_16 : decode b_Gr_init 16 = .ok (.return_, 1) := by decide +kernel
abbrev rm_Gr_init : Room := { frames := 1, cells := 1, slots := 6, locals := 20 }
set_option maxHeartbeats 4000000 in
set_option maxRecDepth 100000 in
theorem c_Gr_init (l : Launch) (D : va_G) (κ : Nat → ClassId) (z sz h0 : Nat) : Met l y_Gr_init WS rm_Gr_init (va_Pc [.ref h0] (cPre D κ z sz [(h0, .inr (5, [.null, .int 0, .int 0, .int 0, .int 0, .int 0]))])) (cQ2 D [(h0, .inr (5, [.null, .int 0, .int 0, .int 0, .int 0, .int 0]))] sz (fun _ _ => True) (fun Θ _ _ => [(h0, .inr (5, [.ref (Θ 0), .int 0, .int 0, .int (-1 : Int32), .int (-1 : Int32), .int (-1 : Int32)])), ((Θ 0), .inl (κ 0, 6, .inl (fun _ => 0)))])) 1 6 (va_A [(h0, .inr (5, [.null, .int 0, .int 0, .int 0, .int 0, .int 0]))] sz) := by
  refine xMet (cc := b_Gr_init) (maxL := 1) (ret := none) (by decide) q_Gr_init.1 ?_
  intro p e s m args below meth c s₁ B hml hv
  obtain ⟨hargs, hsz, hz, hP, hK, hD0, hN, hG, hO⟩ := hv
  have hx := B.exec
  have hb := B.bytes
  have hr := B.returns
  have hlocks := B.notSynchronized
  have hts := atoms_spec (ws := WS) B.pre
  have hown : s.vm.findClass R_Gr = some m.cls := findClass_of_methodNamed B.named
  have hin : meth.name = "<init>" := (name_of_methodNamed B.named B.method).1
  subst hsz
  unfold cQ2
  have hD := hD0.self (sz := s.heap.size)
  have hAz : ∀ q, va_A [(h0, .inr (5, [.null, .int 0, .int 0, .int 0, .int 0, .int 0]))] s.heap.size q → z ≤ q := fun q h => by
    rcases h with ⟨k, e, h⟩ | h
    · exact hD0.2 k _ h
    · exact Nat.le_trans hz h
  generalize hAe : va_A [(h0, .inr (5, [.null, .int 0, .int 0, .int 0, .int 0, .int 0]))] s.heap.size = A at hD hAz ⊢
  have hA : ∀ q : Nat, s.heap.size ≤ q → A q := fun q h => by rw [← hAe]; exact Or.inr h
  have hS : va_S A s.heap s.heap [] := va_S.rf
  have C : cC p m c b_Gr_init 1 s args R_Gr D κ z A := ⟨⟨hx, hb, hml, hown, hts⟩, hK, hN, hG, hO, hz, hA, hAz⟩
  have hE := lg_entry_eq m [.ref h0] 1
  rw [← hargs] at hE
  rw [hE]
  have hl := lv_entry [.ref h0] (n := 1) (Nat.le_of_ble_eq_true rfl)
  generalize (lg_sl [.ref h0] ++ List.replicate (1 - (lg_sl [.ref h0]).length) Slot.unset).toArray = ls at hl ⊢
  have hl : lv_has ls 1 [(0, .ref h0)] := hl
  refine lv_aload_n hx hb d_Gr_init_0 rfl (lv_at hl 0 rfl) ?_
  refine W.objInit hx hb hown (hts _ k_73) (hts _ k_26) (hts _ k_27) rfl (by rw [hml]; exact hl.1) rfl d_Gr_init_1 (Nat.le_of_ble_eq_true rfl) (Nat.le_of_ble_eq_true rfl) ?_
  refine W.eq (g2 := F0 m 4 ls []) rfl ?_
  refine lv_aload_n hx hb d_Gr_init_4 rfl (lv_at hl 0 rfl) ?_
  refine lv_bipush (v := (6 : Int32)) hx hb d_Gr_init_5 (by decide) ?_
  refine y_newI hx hb (hts _ k_57) 0 hK rfl hP hD hS hA (k := (6 : Int32)) (N := 6) (by decide) (by decide) (by decide) (Nat.le_of_ble_eq_true rfl) (Nat.le_of_ble_eq_true rfl) d_Gr_init_7 (fun q7 H hP hD hS => ?_)
  have hP : va_P D clA [(h0, .inr (5, [.null, .int 0, .int 0, .int 0, .int 0, .int 0])), (q7, .inl (κ 0, 6, .inl (fun _ => 0)))] H := hP
  have hD : va_D A [(h0, .inr (5, [.null, .int 0, .int 0, .int 0, .int 0, .int 0])), (q7, .inl (κ 0, 6, .inl (fun _ => 0)))] := hD
  refine va_putF (D := D) (ci := 5) (v := .ref q7) (C := R_Gr) (T := F_Gr) (N := 6) hx hb hts in_Gr t_Gr t_Gr_ok n_Gr hown hK hP hD hS 0 rfl rfl 0 (by decide) (hts _ k_78) (fun _ h9 => h9) rfl hin rfl (t_Gr_ok 0 (by decide)) rfl rfl (Nat.le_of_ble_eq_true rfl) d_Gr_init_9 (fun H locs hP hD hS => ?_)
  have hP : va_P D clA [(h0, .inr (5, [.ref q7, .int 0, .int 0, .int 0, .int 0, .int 0])), (q7, .inl (κ 0, 6, .inl (fun _ => 0)))] H := hP
  have hD : va_D A [(h0, .inr (5, [.ref q7, .int 0, .int 0, .int 0, .int 0, .int 0])), (q7, .inl (κ 0, 6, .inl (fun _ => 0)))] := hD
  refine lv_aload_n hx hb d_Gr_init_12 rfl (lv_at hl 0 rfl) ?_
  refine y_endC (rest := []) C hP hD hS k_74 ⟨(Nat.le_of_ble_eq_true rfl), (Nat.le_of_ble_eq_true rfl)⟩ hl.1 rfl (Nat.le_of_ble_eq_true rfl) d_Gr_init_13 ⟨(Nat.le_of_ble_eq_true rfl), (Nat.le_of_ble_eq_true rfl)⟩ (fun H locs hP hD hS => ?_)
  have hP : va_P D clA [(h0, .inr (5, [.ref q7, .int 0, .int 0, .int (-1 : Int32), .int (-1 : Int32), .int (-1 : Int32)])), (q7, .inl (κ 0, 6, .inl (fun _ => 0)))] H := hP
  have hD : va_D A [(h0, .inr (5, [.ref q7, .int 0, .int 0, .int (-1 : Int32), .int (-1 : Int32), .int (-1 : Int32)])), (q7, .inl (κ 0, 6, .inl (fun _ => 0)))] := hD
  refine W.widen (k := 1) (n := 6) (by decide) (by decide) ?_
  exact W.vret hx hb hr (fun t ht hW => ⟨⟨(fun k => [q7].getD k 0, fun _ _ => 0, fun _ _ => 0), rfl, trivial, by rw [ht]; exact hP, hD⟩, hS.F ht⟩) hS.2.2 d_Gr_init_16 hlocks
