/-! the law's tick: its out row lies apart -/
theorem k_0 : (Jvm.Cond.initialized "TrunkCellsLaw") ∈ WS := WS_of 0 (by decide +kernel) (by decide +kernel)
theorem k_554 : (Jvm.Cond.static y_Lw_tick) ∈ WS := WS_of 554 (by decide +kernel) (by decide +kernel)
theorem k_555 : (Jvm.Cond.codeWith y_Lw_tick method_14_code (4 : Nat) (Option.some Jvm.ClassFile.FieldType.int) [((0 : Nat), (9 : Nat), (12 : Nat), (46 : Nat))]) ∈ WS := WS_of 555 (by decide +kernel) (by decide +kernel)
theorem k_556 : (Jvm.Cond.methodLink "TrunkCellsLaw" (52 : Nat) y_TC_tick) ∈ WS := WS_of 556 (by decide +kernel) (by decide +kernel)
theorem k_557 : (Jvm.Cond.instanceMethod y_TC_tick) ∈ WS := WS_of 557 (by decide +kernel) (by decide +kernel)
theorem k_558 : (Jvm.Cond.selects "TrunkCells" y_TC_tick y_TC_tick) ∈ WS := WS_of 558 (by decide +kernel) (by decide +kernel)
theorem d_Lw_tick_0 : decode b_Lw_tick 0 = .ok (.aload_n 2, 1) := by decide +kernel
theorem d_Lw_tick_1 : decode b_Lw_tick 1 = .ok (.iconst (0), 1) := by decide +kernel
theorem d_Lw_tick_2 : decode b_Lw_tick 2 = .ok (.aload_n 0, 1) := by decide +kernel
theorem d_Lw_tick_3 : decode b_Lw_tick 3 = .ok (.iload_n 1, 1) := by decide +kernel
theorem d_Lw_tick_4 : decode b_Lw_tick 4 = .ok (.invokevirtual 52, 3) := by decide +kernel
theorem d_Lw_tick_7 : decode b_Lw_tick 7 = .ok (.i2l, 1) := by decide +kernel
theorem d_Lw_tick_8 : decode b_Lw_tick 8 = .ok (.lastore, 1) := by decide +kernel
theorem d_Lw_tick_9 : decode b_Lw_tick 9 = .ok (.goto (6), 3) := by decide +kernel
theorem d_Lw_tick_12 : decode b_Lw_tick 12 = .ok (.astore_n 3, 1) := by decide +kernel
theorem d_Lw_tick_13 : decode b_Lw_tick 13 = .ok (.iconst (1), 1) := by decide +kernel
theorem d_Lw_tick_14 : decode b_Lw_tick 14 = .ok (.ireturn, 1) := by decide +kernel
theorem d_Lw_tick_15 : decode b_Lw_tick 15 = .ok (.iconst (0), 1) := by decide +kernel
theorem d_Lw_tick_16 : decode b_Lw_tick 16 = .ok (.ireturn, 1) := by decide +kernel
abbrev wO (κ : Nat → ClassId) (ao : Nat) (f : Nat → Int64) : va_W := [(ao, .inl (κ 1, 1, .inr (.inl f)))]
def xB (n : Nat) (Θ : Nat → Nat) (sz ao : Nat) : Nat → Prop := fun q => xA n Θ sz q ∨ q = ao
def tkPre (D : va_G) (κ : Nat → ClassId) (Θ : Nat → Nat) (sz ao : Nat) (f : Nat → Int64) (I : SI) (J : SJ) : State → Prop := fun U => xPX D clA (tysA κ) 52 Θ (eC Θ κ) sz I J U ∧ va_P D clA (wO κ ao f) U.heap ∧ ¬ xA 52 Θ sz ao
abbrev tkQ (D : va_G) (κ : Nat → ClassId) (Θ : Nat → Nat) (sz ao : Nat) (post : Int32 → (Nat → Int64) → SI → SJ → Prop) : Array Value → State → Outcome → State → Prop := va_Qi (S := (SI × SJ) × (Nat → Int64)) (fun r u => post r u.2 u.1.1 u.1.2) (fun u t => va_P D clA (xw 52 Θ (eC Θ κ) u.1.1 u.1.2 ++ wO κ ao u.2) t.heap) (xB 52 Θ sz ao)
theorem tkPre_blind {D : va_G} {κ : Nat → ClassId} {Θ : Nat → Nat} {sz ao : Nat} {f : Nat → Int64} {I : SI} {J : SJ} {As : List Value} : FrameBlind (va_Pc As (tkPre D κ Θ sz ao f I J)) := by
  intro a U g mk h
  obtain ⟨h0, h1, h2, h3⟩ := h
  have hh := xPX_blind (As := As) a U g mk ⟨h0, h1⟩
  exact ⟨h0, hh.2, h2, h3⟩
def p_Lw_tick (p1 : Int32) (f : Nat → Int64) (post : Int32 → (Nat → Int64) → SI → SJ → Prop) (I : SI) (J : SJ) : Prop :=
  p_TC_tick p1 (fun v I J => post 0 (vp_updL f 0 v.toInt64) I J) (fun i I J => i = 3 ∧ post 1 f I J) I J
abbrev rm_Lw_tick : Room := { frames := 7, cells := 1, slots := 6, locals := 189 }
theorem xw_len (n : Nat) (Θ : Nat → Nat) (X : EE) (I : SI) (J : SJ) : (xw n Θ X I J).length = n := by simp [xw]
set_option maxHeartbeats 4000000 in
set_option maxRecDepth 100000 in
theorem c_Lw_tick (l : Launch) (hfl : l.flags = pinnedFlags ++ [noTraceFlag]) (D : va_G) (κ : Nat → ClassId) {Θ : Nat → Nat} (hΘ : xJ 52 Θ) (sz ao : Nat) (f : Nat → Int64) (p1 : Int32) (I : SI) (J : SJ) (post : Int32 → (Nat → Int64) → SI → SJ → Prop) (h : p_Lw_tick p1 f post I J) : Met l y_Lw_tick WS rm_Lw_tick (va_Pc [.ref (Θ 0), .int p1, .ref ao] (tkPre D κ Θ sz ao f I J)) (tkQ D κ Θ sz ao post) 1 6 (xB 52 Θ sz ao) := by
  refine xMetH (cc := b_Lw_tick) (maxL := 4) (ret := (some .int)) (hs := [(0, 9, 12, 46)]) (by decide) k_555 ?_
  intro p e s m args below meth c s₁ B hml htb hv
  obtain ⟨hargs, ⟨⟨hsz, hP, hK, hN, hG⟩, hsz2, hT⟩, hPo, hao⟩ := hv
  have hx := B.exec
  have hb := B.bytes
  have hr := B.returns
  have hlocks := B.notSynchronized
  have hts := atoms_spec (ws := WS) B.pre
  have hown : s.vm.findClass R_Lw = some m.cls := findClass_of_methodNamed B.named
  have C : xC p m c b_Lw_tick 4 s args R_Lw D clA (tysA κ) 52 Θ sz := ⟨⟨hx, hb, hml, hown, hts⟩, hK, hN, hG, hsz⟩
  have hE := lg_entry_eq m [.ref (Θ 0), .int p1, .ref ao] 4
  rw [← hargs] at hE
  rw [hE]
  have hl := lv_entry [.ref (Θ 0), .int p1, .ref ao] (n := 4) (Nat.le_of_ble_eq_true rfl)
  generalize (lg_sl [.ref (Θ 0), .int p1, .ref ao] ++ List.replicate (4 - (lg_sl [.ref (Θ 0), .int p1, .ref ao]).length) Slot.unset).toArray = ls at hl ⊢
  have hl : lv_has ls 4 [(0, .ref (Θ 0)), (1, .int p1), (2, .ref ao)] := hl
  unfold p_Lw_tick at h
  have hal : ao < s.heap.size := (hPo 0 _ rfl).lt
  -- the out row stands as it was, and apart
  have keep : ∀ (I1 : SI) (J1 : SJ) (H : Heap) (locs : List Loc), va_P D clA (xw 52 Θ (eC Θ κ) I1 J1) H → va_S (xA 52 Θ sz) s.heap H locs → va_P D clA (xw 52 Θ (eC Θ κ) I1 J1 ++ wO κ ao f) H ∧ va_D (xB 52 Θ sz ao) (xw 52 Θ (eC Θ κ) I1 J1 ++ wO κ ao f) ∧ va_S (xB 52 Θ sz ao) s.heap H locs := by
    intro I1 J1 H locs hP1 hS1
    have hPo1 : va_P D clA (wO κ ao f) H := hPo.kept (fun k q hk => by
      rcases k with _ | k
      · cases hk
        exact hS1.2.1 ao hal hao
      · cases hk)
    refine ⟨hP1.app hPo1, vD_mem.mpr ⟨?_, fun q hq => ?_⟩, ⟨hS1.1, fun q h1 h2 => hS1.2.1 q h1 (fun h3 => h2 (Or.inl h3)), fun q hq => Or.inl (hS1.2.2 q hq)⟩⟩
    · rw [List.pairwise_append]
      refine ⟨(vD_mem.mp (xw_D (sz := sz) hΘ)).1, List.pairwise_singleton _ _, fun a ha b hb e => ?_⟩
      have hb' : b = (ao, .inl (κ 1, 1, .inr (.inl f))) := List.mem_singleton.mp hb
      subst hb'
      exact hao (by rw [← show a.1 = ao from e]; exact (vD_mem.mp (xw_D (sz := sz) (X := eC Θ κ) (I := I1) (J := J1) hΘ)).2 a ha)
    · rcases List.mem_append.mp hq with h | h
      · exact Or.inl ((vD_mem.mp (xw_D (sz := sz) (X := eC Θ κ) (I := I1) (J := J1) hΘ)).2 q h)
      · have hb' := List.mem_singleton.mp h
        subst hb'
        exact Or.inr rfl
  refine lv_aload_n hx hb d_Lw_tick_0 rfl (lv_at hl 2 rfl) ?_
  refine lv_iconst (v := (0 : Int32)) hx hb d_Lw_tick_1 (by decide) ?_
  refine lv_aload_n hx hb d_Lw_tick_2 rfl (lv_at hl 0 rfl) ?_
  refine lv_iload_n hx hb d_Lw_tick_3 rfl (lv_at hl 1 rfl) ?_
  refine x_callC (As := [.int p1]) (rest := [.int (0 : Int32), .ref ao]) [3] C hT hsz2 htb hP (Nat.le_of_ble_eq_true rfl) (eC_TC _ _) rfl (c_TC_tick l hfl D κ hΘ sz p1 I J _ _ h) q_TC_tick k_557 k_558 k_556 (Nat.le_of_ble_eq_true rfl) (Nat.le_of_ble_eq_true rfl) ⟨(Nat.le_of_ble_eq_true rfl), (Nat.le_of_ble_eq_true rfl)⟩ rfl hl.1 rfl (Nat.le_of_ble_eq_true rfl) d_Lw_tick_4 (fun v I1 J1 hv H locs hP hS => ?_) (fun i I1 J1 hv a H locs hP hS => ?_)
  · obtain ⟨r, rfl, h⟩ := hv
    obtain ⟨hP, hD, hS⟩ := keep I1 J1 H locs hP hS
    refine lv_i2l (v := r.toInt64) hx hb d_Lw_tick_7 rfl ?_
    have h52 : (xw 52 Θ (eC Θ κ) I1 J1 ++ wO κ ao f)[52]? = some (ao, .inl (κ 1, 1, .inr (.inl f))) := by
      rw [List.getElem?_append_right (by rw [xw_len]; exact Nat.le_refl _)]
      rw [xw_len]
      rfl
    refine va_last hx hb hK hP hD hS 52 1 h52 rfl (i := (0 : Int32)) (by unfold vp_in; decide) d_Lw_tick_8 (fun H locs hP hD hS => ?_)
    have es : (xw 52 Θ (eC Θ κ) I1 J1 ++ wO κ ao f).set 52 (ao, .inl (κ 1, 1, .inr (.inl (vp_updL f 0 r.toInt64)))) = xw 52 Θ (eC Θ κ) I1 J1 ++ wO κ ao (vp_updL f 0 r.toInt64) := by
      rw [List.set_append_right _ _ (by rw [xw_len]; exact Nat.le_refl _)]
      rw [xw_len]
      rfl
    have hP : va_P D clA (xw 52 Θ (eC Θ κ) I1 J1 ++ wO κ ao (vp_updL f 0 r.toInt64)) H := by
      rw [← es]
      exact hP
    refine lv_goto hx hb d_Lw_tick_9 (tgt := 15) rfl ?_
    refine lv_iconst (v := (0 : Int32)) hx hb d_Lw_tick_15 (by decide) ?_
    refine W.widen (k := 1) (n := 6) (by omega) (by omega) ?_
    exact W.iret (v := 0) hx hb hr (fun t ht hW => ⟨⟨0, ((I1, J1), vp_updL f 0 r.toInt64), rfl, h, by show va_P D clA (xw 52 Θ (eC Θ κ) I1 J1 ++ wO κ ao (vp_updL f 0 r.toInt64)) t.heap; rw [ht]; exact hP⟩, hS.F ht⟩) hS.2.2 d_Lw_tick_16 hlocks
  · obtain ⟨rfl, h⟩ := hv
    obtain ⟨hP, hD, hS⟩ := keep I1 J1 H locs hP hS
    refine ⟨12, ⟨by decide, by decide, k_519, Or.inl ⟨rfl, rfl⟩⟩, ?_⟩
    refine lv_astore_n hx hb d_Lw_tick_12 rfl hl (Nat.le_of_ble_eq_true rfl) (lv' := [(3, .ref a), (0, .ref (Θ 0)), (1, .int p1), (2, .ref ao)]) rfl (fun ls hl => ?_)
    refine lv_iconst (v := (1 : Int32)) hx hb d_Lw_tick_13 (by decide) ?_
    exact W.iret (v := 1) hx hb hr (fun t ht hW => ⟨⟨1, ((I1, J1), f), rfl, h, by show va_P D clA (xw 52 Θ (eC Θ κ) I1 J1 ++ wO κ ao f) t.heap; rw [ht]; exact hP⟩, hS.F ht⟩) hS.2.2 d_Lw_tick_14 hlocks
section TK
variable {p : Program} {l : Launch} {e : Env} {R : Room} {s : State} {m : MethodId} {args : Array Value} {below : List Frame} {meth : Method} {c : Code} {H : Heap} {locs : List Loc} {cells slots : Nat} {Q : State → Prop}
variable {cc : ByteArray} {pc nL : Nat} {ls : Array Slot} {rest st0 : List Value} {D : va_G} {κ : Nat → ClassId} {z : Nat} {A : Nat → Prop} {Xs : va_W} {own : String} {index ao : Nat} {f : Nat → Int64} {Θ : Nat → Nat} {I : SI} {J : SJ} {p1 : Int32}
theorem y_Tk {post : Int32 → (Nat → Int64) → SI → SJ → Prop} (hfl : l.flags = pinnedFlags ++ [noTraceFlag]) (C : cC p m c cc nL s args own D κ z A) (hT : TG s) (hP : va_P D clA (Xs ++ (xw 52 Θ (eC Θ κ) I J ++ wO κ ao f)) H) (hD : va_D A (Xs ++ (xw 52 Θ (eC Θ κ) I J ++ wO κ ao f))) (hS : va_S A s.heap H locs)
    (h : p_Lw_tick p1 f post I J) (hl : Cond.methodLink own index y_Lw_tick ∈ WS) (hRm : 7 + 1 ≤ R.frames ∧ 8 + (4 + 11) + 189 ≤ R.locals)
    (hsize : ls.size = nL) (hstack : st0 = .ref ao :: .int p1 :: .ref (Θ 0) :: rest) (hW : (rest.map fun v => v.category).sum ≤ 8) (hdg : decode cc pc = .ok (.invokestatic index, 3)) (hf : cells + 1 ≤ R.cells ∧ slots + 6 ≤ R.slots)
    (kk : ∀ (r : Int32) (g : Nat → Int64) (I1 : SI) (J1 : SJ) (H1 : Heap) (locs1 : List Loc), post r g I1 J1 → va_P D clA (Xs ++ (xw 52 Θ (eC Θ κ) I1 J1 ++ wO κ ao g)) H1 → va_D A (Xs ++ (xw 52 Θ (eC Θ κ) I1 J1 ++ wO κ ao g)) → va_S A s.heap H1 locs1 → W p l e R s m args below meth c H1 locs1 (cells + 1) (slots + 6) Q (F0 m (pc + 3) ls (.int r :: rest))) : W p l e R s m args below meth c H locs cells slots Q (F0 m pc ls st0) := by
  have hPn : va_P D clA (Xs ++ ((xw 52 Θ (eC Θ κ) I J ++ wO κ ao f) ++ [])) H := by
    rw [List.append_nil]
    exact hP
  have hDn : va_D A (Xs ++ ((xw 52 Θ (eC Θ κ) I J ++ wO κ ao f) ++ [])) := by
    rw [List.append_nil]
    exact hD
  obtain ⟨hPa, hDa⟩ := va_cut hPn hDn
  obtain ⟨hPc, hDc⟩ := va_cut (X := Xs) hP hD
  have hPo : va_P D clA (wO κ ao f) H := vP_mem.mpr (fun q hq => vP_mem.mp hPa q (List.mem_append_right _ hq))
  have hΘ := xJ_of hDc
  have hF := va_fr hDa hS C.2.2.2.2.2.2.1
  have hal : ao < H.size := (hPo 0 _ rfl).lt
  have hao : ¬ xA 52 Θ H.size ao := fun hx => by
    rcases hx with ⟨o, ho, e⟩ | hx
    · have d := (vD_mem.mp hDa).1
      rw [List.pairwise_append] at d
      exact d.2.2 _ (List.mem_of_getElem? (xw_at ho rfl)) _ (List.mem_singleton.mpr rfl) e.symm
    · omega
  have hBA : ∀ (I1 : SI) (J1 : SJ) (g : Nat → Int64) (q : Nat), xB 52 Θ H.size ao q ↔ va_A (xw 52 Θ (eC Θ κ) I1 J1 ++ wO κ ao g) H.size q := by
    intro I1 J1 g q
    constructor
    · intro hx
      rcases hx with (⟨o, ho, rfl⟩ | hx) | rfl
      · obtain ⟨k, hk, e⟩ := List.mem_iff_getElem.mp (List.mem_append_left (wO κ ao g) (List.mem_of_getElem? (xw_at (X := eC Θ κ) (I := I1) (J := J1) (Θ := Θ) ho rfl)))
        exact Or.inl ⟨k, _, by rw [List.getElem?_eq_getElem hk, e]⟩
      · exact Or.inr hx
      · obtain ⟨k, hk, e⟩ := List.mem_iff_getElem.mp (List.mem_append_right (xw 52 Θ (eC Θ κ) I1 J1) (List.mem_singleton.mpr (rfl : ((q, .inl (κ 1, 1, .inr (.inl g))) : Nat × va_E) = (q, .inl (κ 1, 1, .inr (.inl g))))))
        exact Or.inl ⟨k, _, by rw [List.getElem?_eq_getElem hk, e]⟩
    · intro hx
      rcases hx with ⟨k, e, hx⟩ | hx
      · rcases List.mem_append.mp (List.mem_of_getElem? hx) with hm | hm
        · obtain ⟨k2, hk2, e2⟩ := List.mem_iff_getElem.mp hm
          obtain ⟨a1, a2⟩ := xw_of (show (xw 52 Θ (eC Θ κ) I1 J1)[k2]? = some (q, e) by rw [List.getElem?_eq_getElem hk2, e2])
          exact Or.inl (Or.inl ⟨k2, a1, congrArg Prod.fst a2⟩)
        · exact Or.inr (congrArg Prod.fst (List.mem_singleton.mp hm))
      · exact Or.inl (Or.inr hx)
  have hF' : ∀ q, xB 52 Θ H.size ao q → A q := fun q hx => hF q ((hBA I J f q).mp hx)
  refine va_calli (y_runSW (hh := [(0, 9, 12, 46)]) (bytes := b_Lw_tick) (maxL := 4) (ret := some .int) (k := 3) (As := [.ref (Θ 0), .int p1, .ref ao]) (rest := rest) C.1 (c_Lw_tick l hfl D κ hΘ H.size ao f p1 I J post h) k_555 k_0 ⟨⟨by decide +kernel, by decide +kernel⟩, by decide +kernel⟩ k_554 hl rfl rfl hRm ⟨tkPre_blind, fun U hU hW => ⟨rfl, ⟨(y_pre (As := []) C hPc hDc hS U hU hW).2, by rw [hU], y_TG C hT hS hU hW⟩, by rw [hU]; exact hPo, hao⟩⟩ rfl hsize hstack hW hdg hf) hS (fun q _ h => hF' q h) hF' (fun r u t H1 locs1 ht hvm hp hB hz1 hk1 hS1 => ?_)
  rw [ht] at hB
  obtain ⟨hP2, hD2⟩ := va_mid (Y' := xw 52 Θ (eC Θ κ) u.1.1 u.1.2 ++ wO κ ao u.2) hPn hDn (fun q h1 h2 => hk1 q h1 (fun h3 => h2 ((hBA I J f q).mp h3))) hF hB (by
    refine vD_mem.mpr ⟨?_, fun q hq => ?_⟩
    · rw [List.pairwise_append]
      refine ⟨(vD_mem.mp (xw_D (sz := H.size) hΘ)).1, List.pairwise_singleton _ _, fun a ha b hb e => ?_⟩
      have hb' : b = (ao, .inl (κ 1, 1, .inr (.inl u.2))) := List.mem_singleton.mp hb
      subst hb'
      exact hao (by rw [← show a.1 = ao from e]; exact (vD_mem.mp (xw_D (sz := H.size) (X := eC Θ κ) (I := u.1.1) (J := u.1.2) hΘ)).2 a ha)
    · refine (hBA I J f q.1).mp ((hBA u.1.1 u.1.2 u.2 q.1).mpr ?_)
      obtain ⟨k, hk, e⟩ := List.mem_iff_getElem.mp hq
      exact Or.inl ⟨k, q.2, by rw [List.getElem?_eq_getElem hk, e]⟩)
  rw [List.append_nil] at hP2 hD2
  exact kk r u.2 u.1.1 u.1.2 H1 locs1 hp hP2 hD2 hS1
end TK
