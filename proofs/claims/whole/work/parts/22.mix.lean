theorem d_TC_isIndex_0 : decode b_TC_isIndex 0 = .ok (.iload_n 0, 1) := by decide +kernel
theorem d_TC_isIndex_1 : decode b_TC_isIndex 1 = .ok (.ifCond .lt (12), 3) := by decide +kernel
theorem d_TC_isIndex_4 : decode b_TC_isIndex 4 = .ok (.iload_n 0, 1) := by decide +kernel
theorem d_TC_isIndex_5 : decode b_TC_isIndex 5 = .ok (.iload_n 1, 1) := by decide +kernel
theorem d_TC_isIndex_6 : decode b_TC_isIndex 6 = .ok (.if_icmp .ge (7), 3) := by decide +kernel
theorem d_TC_isIndex_9 : decode b_TC_isIndex 9 = .ok (.iconst (1), 1) := by decide +kernel
theorem d_TC_isIndex_10 : decode b_TC_isIndex 10 = .ok (.goto (4), 3) := by decide +kernel
theorem d_TC_isIndex_13 : decode b_TC_isIndex 13 = .ok (.iconst (0), 1) := by decide +kernel
theorem d_TC_isIndex_14 : decode b_TC_isIndex 14 = .ok (.ireturn, 1) := by decide +kernel
theorem d_TC_colourOf_0 : decode b_TC_colourOf 0 = .ok (.iload_n 0, 1) := by decide +kernel
theorem d_TC_colourOf_1 : decode b_TC_colourOf 1 = .ok (.iconst (1), 1) := by decide +kernel
theorem d_TC_colourOf_2 : decode b_TC_colourOf 2 = .ok (.iadd, 1) := by decide +kernel
theorem d_TC_colourOf_3 : decode b_TC_colourOf 3 = .ok (.ireturn, 1) := by decide +kernel
theorem d_TC_mix_0 : decode b_TC_mix 0 = .ok (.iload_n 0, 1) := by decide +kernel
theorem d_TC_mix_1 : decode b_TC_mix 1 = .ok (.istore_n 2, 1) := by decide +kernel
theorem d_TC_mix_2 : decode b_TC_mix 2 = .ok (.iconst (0), 1) := by decide +kernel
theorem d_TC_mix_3 : decode b_TC_mix 3 = .ok (.istore_n 3, 1) := by decide +kernel
theorem d_TC_mix_4 : decode b_TC_mix 4 = .ok (.iload_n 3, 1) := by decide +kernel
theorem d_TC_mix_5 : decode b_TC_mix 5 = .ok (.iconst (3), 1) := by decide +kernel
theorem d_TC_mix_6 : decode b_TC_mix 6 = .ok (.if_icmp .ge (20), 3) := by decide +kernel
theorem d_TC_mix_9 : decode b_TC_mix 9 = .ok (.iload_n 2, 1) := by decide +kernel
theorem d_TC_mix_10 : decode b_TC_mix 10 = .ok (.ldc 187, 2) := by decide +kernel
theorem d_TC_mix_12 : decode b_TC_mix 12 = .ok (.imul, 1) := by decide +kernel
theorem d_TC_mix_13 : decode b_TC_mix 13 = .ok (.iload_n 1, 1) := by decide +kernel
theorem d_TC_mix_14 : decode b_TC_mix 14 = .ok (.iadd, 1) := by decide +kernel
theorem d_TC_mix_15 : decode b_TC_mix 15 = .ok (.sipush (12345), 3) := by decide +kernel
theorem d_TC_mix_18 : decode b_TC_mix 18 = .ok (.iadd, 1) := by decide +kernel
theorem d_TC_mix_19 : decode b_TC_mix 19 = .ok (.istore_n 2, 1) := by decide +kernel
theorem d_TC_mix_20 : decode b_TC_mix 20 = .ok (.iinc 3 (1), 3) := by decide +kernel
theorem d_TC_mix_23 : decode b_TC_mix 23 = .ok (.goto (-19), 3) := by decide +kernel
theorem d_TC_mix_26 : decode b_TC_mix 26 = .ok (.iload_n 2, 1) := by decide +kernel
theorem d_TC_mix_27 : decode b_TC_mix 27 = .ok (.bipush (8), 2) := by decide +kernel
theorem d_TC_mix_29 : decode b_TC_mix 29 = .ok (.iushr, 1) := by decide +kernel
theorem d_TC_mix_30 : decode b_TC_mix 30 = .ok (.ldc 188, 2) := by decide +kernel
theorem d_TC_mix_32 : decode b_TC_mix 32 = .ok (.iand, 1) := by decide +kernel
theorem d_TC_mix_33 : decode b_TC_mix 33 = .ok (.ireturn, 1) := by decide +kernel
def p_TC_isIndex_13 (p0 : Int32) (p1 : Int32) (post : Int32 → SI → SJ → Prop) (I : SI) (J : SJ) : Prop :=
  post (0 : Int32) I J
def p_TC_isIndex (p0 : Int32) (p1 : Int32) (post : Int32 → SI → SJ → Prop) (I : SI) (J : SJ) : Prop :=
  ((p0 < (0) → p_TC_isIndex_13 p0 p1 post I J) ∧ (¬ p0 < (0) → ((p1 ≤ p0 → p_TC_isIndex_13 p0 p1 post I J) ∧ (¬ p1 ≤ p0 → post (1 : Int32) I J))))
abbrev rm_TC_isIndex : Room := { frames := 0, cells := 0, slots := 0, locals := 0 }
def p_TC_colourOf (p0 : Int32) (post : Int32 → SI → SJ → Prop) (I : SI) (J : SJ) : Prop :=
  post (p0 + (1 : Int32)) I J
abbrev rm_TC_colourOf : Room := { frames := 0, cells := 0, slots := 0, locals := 0 }
def p_TC_mix_L4 (p0 : Int32) (p1 : Int32) (post : Int32 → SI → SJ → Prop) : Nat → Int32 → Int32 → SI → SJ → Prop
  | 0, _, _, _, _ => False
  | n + 1, v2, v3, I, J => (((3 : Int32) ≤ v3 → post ((xsu v2 (8 : Int32)) &&& (8388607 : Int32)) I J) ∧ (¬ (3 : Int32) ≤ v3 → ∀ x2, x2 = ((v2 * (1103515245 : Int32)) + p1) + (12345 : Int32) → ∀ x3, x3 = v3 + (1 : Int32) → p_TC_mix_L4 p0 p1 post n x2 x3 I J))
def p_TC_mix (p0 : Int32) (p1 : Int32) (post : Int32 → SI → SJ → Prop) (I : SI) (J : SJ) : Prop :=
  ∀ x1, x1 = (0 : Int32) → ∃ n5, p_TC_mix_L4 p0 p1 post n5 p0 x1 I J
abbrev rm_TC_mix : Room := { frames := 0, cells := 0, slots := 0, locals := 0 }
set_option maxHeartbeats 4000000 in
set_option maxRecDepth 100000 in
theorem c_TC_isIndex (l : Launch) (D : va_G) (κ : Nat → ClassId) {Θ : Nat → Nat} (hΘ : xJ 52 Θ) (sz : Nat) (p0 : Int32) (p1 : Int32) (I : SI) (J : SJ) (post : Int32 → SI → SJ → Prop) (h : p_TC_isIndex p0 p1 post I J) : Met l y_TC_isIndex WS rm_TC_isIndex (va_Pc [.int p0, .int p1] (xPR D clA (tysA κ) 52 Θ (eC Θ κ) sz I J)) (xQi D clA 52 Θ (eC Θ κ) sz post) 0 0 (xA 52 Θ sz) := by
  refine xMet (cc := b_TC_isIndex) (maxL := 2) (ret := (some .boolean)) (by decide) q_TC_isIndex.1 ?_
  intro p e s m args below meth c s₁ B hml hv
  obtain ⟨hargs, hsz, hP, hK, hN, hG⟩ := hv
  have hx := B.exec
  have hb := B.bytes
  have hr := B.returns
  have hlocks := B.notSynchronized
  have hts := atoms_spec (ws := WS) B.pre
  have hown : s.vm.findClass R_TC = some m.cls := findClass_of_methodNamed B.named
  have C : xC p m c b_TC_isIndex 2 s args R_TC D clA (tysA κ) 52 Θ sz := ⟨⟨hx, hb, hml, hown, hts⟩, hK, hN, hG, hsz⟩
  have hS : va_S (xA 52 Θ sz) s.heap s.heap [] := va_S.rf
  have tJ13 : ∀ (I : SI) (J : SJ), p_TC_isIndex_13 p0 p1 post I J → ∀ (H : Heap) (locs : List Loc) (ls : Array Slot), lv_has ls 2 [] → va_P D clA (xw 52 Θ (eC Θ κ) I J) H → va_S (xA 52 Θ sz) s.heap H locs → W p l e (headSpec WS rm_TC_isIndex).room s m args below meth c H locs 0 0 (MQ below (xQi D clA 52 Θ (eC Θ κ) sz post) args s 0 0 (xA 52 Θ sz)) (F0 m 13 ls []) := by
    intro I J h H locs ls hl hP hS
    unfold p_TC_isIndex_13 at h
    refine lv_iconst (v := (0 : Int32)) hx hb d_TC_isIndex_13 (by decide) ?_
    exact x_zret hx hb hr hlocks hP hS (by decide) h d_TC_isIndex_14
  have hE := lg_entry_eq m [.int p0, .int p1] 2
  rw [← hargs] at hE
  rw [hE]
  have hl := lv_entry [.int p0, .int p1] (n := 2) (Nat.le_of_ble_eq_true rfl)
  generalize (lg_sl [.int p0, .int p1] ++ List.replicate (2 - (lg_sl [.int p0, .int p1]).length) Slot.unset).toArray = ls at hl ⊢
  have hl : lv_has ls 2 [(0, .int p0), (1, .int p1)] := hl
  unfold p_TC_isIndex at h
  refine lv_iload_n hx hb d_TC_isIndex_0 rfl (lv_at hl 0 rfl) ?_
  refine lv_if_lt hx hb d_TC_isIndex_1 (tgt := 13) rfl (fun hc2 => ?_) (fun hc2 => ?_)
  · have h := h.1 hc2
    exact tJ13 _ _ h _ _ _ (lv_sub hl [] rfl) hP hS
  · have h := h.2 hc2
    refine lv_iload_n hx hb d_TC_isIndex_4 rfl (lv_at hl 0 rfl) ?_
    refine lv_iload_n hx hb d_TC_isIndex_5 rfl (lv_at hl 1 rfl) ?_
    refine lv_icmp_ge hx hb d_TC_isIndex_6 (tgt := 13) rfl (fun hc1 => ?_) (fun hc1 => ?_)
    · have h := h.1 hc1
      exact tJ13 _ _ h _ _ _ (lv_sub hl [] rfl) hP hS
    · have h := h.2 hc1
      refine lv_iconst (v := (1 : Int32)) hx hb d_TC_isIndex_9 (by decide) ?_
      refine lv_goto hx hb d_TC_isIndex_10 (tgt := 14) rfl ?_
      exact x_zret hx hb hr hlocks hP hS (by decide) h d_TC_isIndex_14
set_option maxHeartbeats 4000000 in
set_option maxRecDepth 100000 in
theorem c_TC_colourOf (l : Launch) (D : va_G) (κ : Nat → ClassId) {Θ : Nat → Nat} (hΘ : xJ 52 Θ) (sz : Nat) (p0 : Int32) (I : SI) (J : SJ) (post : Int32 → SI → SJ → Prop) (h : p_TC_colourOf p0 post I J) : Met l y_TC_colourOf WS rm_TC_colourOf (va_Pc [.int p0] (xPR D clA (tysA κ) 52 Θ (eC Θ κ) sz I J)) (xQi D clA 52 Θ (eC Θ κ) sz post) 0 0 (xA 52 Θ sz) := by
  refine xMet (cc := b_TC_colourOf) (maxL := 1) (ret := (some .int)) (by decide) q_TC_colourOf.1 ?_
  intro p e s m args below meth c s₁ B hml hv
  obtain ⟨hargs, hsz, hP, hK, hN, hG⟩ := hv
  have hx := B.exec
  have hb := B.bytes
  have hr := B.returns
  have hlocks := B.notSynchronized
  have hts := atoms_spec (ws := WS) B.pre
  have hown : s.vm.findClass R_TC = some m.cls := findClass_of_methodNamed B.named
  have C : xC p m c b_TC_colourOf 1 s args R_TC D clA (tysA κ) 52 Θ sz := ⟨⟨hx, hb, hml, hown, hts⟩, hK, hN, hG, hsz⟩
  have hS : va_S (xA 52 Θ sz) s.heap s.heap [] := va_S.rf
  have hE := lg_entry_eq m [.int p0] 1
  rw [← hargs] at hE
  rw [hE]
  have hl := lv_entry [.int p0] (n := 1) (Nat.le_of_ble_eq_true rfl)
  generalize (lg_sl [.int p0] ++ List.replicate (1 - (lg_sl [.int p0]).length) Slot.unset).toArray = ls at hl ⊢
  have hl : lv_has ls 1 [(0, .int p0)] := hl
  unfold p_TC_colourOf at h
  refine lv_iload_n hx hb d_TC_colourOf_0 rfl (lv_at hl 0 rfl) ?_
  refine lv_iconst (v := (1 : Int32)) hx hb d_TC_colourOf_1 (by decide) ?_
  refine lv_iadd hx hb d_TC_colourOf_2 ?_
  exact x_iret hx hb hr hlocks hP hS h d_TC_colourOf_3
set_option maxHeartbeats 4000000 in
set_option maxRecDepth 100000 in
theorem c_TC_mix (l : Launch) (D : va_G) (κ : Nat → ClassId) {Θ : Nat → Nat} (hΘ : xJ 52 Θ) (sz : Nat) (p0 : Int32) (p1 : Int32) (I : SI) (J : SJ) (post : Int32 → SI → SJ → Prop) (h : p_TC_mix p0 p1 post I J) : Met l y_TC_mix WS rm_TC_mix (va_Pc [.int p0, .int p1] (xPR D clA (tysA κ) 52 Θ (eC Θ κ) sz I J)) (xQi D clA 52 Θ (eC Θ κ) sz post) 0 0 (xA 52 Θ sz) := by
  refine xMet (cc := b_TC_mix) (maxL := 4) (ret := (some .int)) (by decide) q_TC_mix.1 ?_
  intro p e s m args below meth c s₁ B hml hv
  obtain ⟨hargs, hsz, hP, hK, hN, hG⟩ := hv
  have hx := B.exec
  have hb := B.bytes
  have hr := B.returns
  have hlocks := B.notSynchronized
  have hts := atoms_spec (ws := WS) B.pre
  have hown : s.vm.findClass R_TC = some m.cls := findClass_of_methodNamed B.named
  have C : xC p m c b_TC_mix 4 s args R_TC D clA (tysA κ) 52 Θ sz := ⟨⟨hx, hb, hml, hown, hts⟩, hK, hN, hG, hsz⟩
  have hS : va_S (xA 52 Θ sz) s.heap s.heap [] := va_S.rf
  have tL4 : ∀ (n : Nat) (v2 : Int32) (v3 : Int32) (I : SI) (J : SJ), p_TC_mix_L4 p0 p1 post n v2 v3 I J → ∀ (H : Heap) (locs : List Loc) (ls : Array Slot), lv_has ls 4 [(1, .int p1), (2, .int v2), (3, .int v3)] → va_P D clA (xw 52 Θ (eC Θ κ) I J) H → va_S (xA 52 Θ sz) s.heap H locs → W p l e (headSpec WS rm_TC_mix).room s m args below meth c H locs 0 0 (MQ below (xQi D clA 52 Θ (eC Θ κ) sz post) args s 0 0 (xA 52 Θ sz)) (F0 m 4 ls []) := by
    intro n
    induction n with
    | zero =>
      intro v2 v3 I J h H locs ls hl hP hS
      exact h.elim
    | succ n ih =>
      intro v2 v3 I J h H locs ls hl hP hS
      unfold p_TC_mix_L4 at h
      refine lv_iload_n hx hb d_TC_mix_4 rfl (lv_at hl 2 rfl) ?_
      refine lv_iconst (v := (3 : Int32)) hx hb d_TC_mix_5 (by decide) ?_
      refine lv_icmp_ge hx hb d_TC_mix_6 (tgt := 26) rfl (fun hc4 => ?_) (fun hc4 => ?_)
      · have h := h.1 hc4
        refine lv_iload_n hx hb d_TC_mix_26 rfl (lv_at hl 1 rfl) ?_
        refine lv_bipush (v := (8 : Int32)) hx hb d_TC_mix_27 (by decide) ?_
        refine lv_iushr (v := xsu v2 (8 : Int32)) hx hb d_TC_mix_29 rfl ?_
        refine lv_ldc (v := (8388607 : Int32)) hx hb hown (hts _ k_582) d_TC_mix_30 ?_
        refine lv_iand hx hb d_TC_mix_32 ?_
        exact x_iret hx hb hr hlocks hP hS h d_TC_mix_33
      · have h := h.2 hc4
        refine lv_iload_n hx hb d_TC_mix_9 rfl (lv_at hl 1 rfl) ?_
        refine lv_ldc (v := (1103515245 : Int32)) hx hb hown (hts _ k_581) d_TC_mix_10 ?_
        refine lv_imul hx hb d_TC_mix_12 ?_
        refine lv_iload_n hx hb d_TC_mix_13 rfl (lv_at hl 0 rfl) ?_
        refine lv_iadd hx hb d_TC_mix_14 ?_
        refine lv_sipush (v := (12345 : Int32)) hx hb d_TC_mix_15 (by decide) ?_
        refine lv_iadd hx hb d_TC_mix_18 ?_
        refine lv_topi (fun x2 ex2 => ?_)
        have h := h x2 ex2
        refine lv_istore_n hx hb d_TC_mix_19 rfl hl (Nat.le_of_ble_eq_true rfl) (lv' := [(2, .int x2), (1, .int p1), (3, .int v3)]) rfl (fun ls hl => ?_)
        obtain ⟨x3, ex3⟩ : ∃ y : Int32, y = v3 + (1 : Int32) := ⟨_, rfl⟩
        have h := h x3 ex3
        refine lv_iinc (k := 2) (v := x3) hx hb d_TC_mix_20 hl rfl (by rw [ex3]; rfl) (Nat.le_of_ble_eq_true rfl) (lv' := [(3, .int x3), (2, .int x2), (1, .int p1)]) rfl (fun ls hl => ?_)
        refine lv_goto hx hb d_TC_mix_23 (tgt := 4) rfl ?_
        exact ih _ _ _ _ h _ _ _ (lv_sub hl [2, 1, 0] rfl) hP hS
  have hE := lg_entry_eq m [.int p0, .int p1] 4
  rw [← hargs] at hE
  rw [hE]
  have hl := lv_entry [.int p0, .int p1] (n := 4) (Nat.le_of_ble_eq_true rfl)
  generalize (lg_sl [.int p0, .int p1] ++ List.replicate (4 - (lg_sl [.int p0, .int p1]).length) Slot.unset).toArray = ls at hl ⊢
  have hl : lv_has ls 4 [(0, .int p0), (1, .int p1)] := hl
  unfold p_TC_mix at h
  refine lv_iload_n hx hb d_TC_mix_0 rfl (lv_at hl 0 rfl) ?_
  refine lv_istore_n hx hb d_TC_mix_1 rfl hl (Nat.le_of_ble_eq_true rfl) (lv' := [(2, .int p0), (0, .int p0), (1, .int p1)]) rfl (fun ls hl => ?_)
  refine lv_iconst (v := (0 : Int32)) hx hb d_TC_mix_2 (by decide) ?_
  refine lv_topi (fun x1 ex1 => ?_)
  have h := h x1 ex1
  refine lv_istore_n hx hb d_TC_mix_3 rfl hl (Nat.le_of_ble_eq_true rfl) (lv' := [(3, .int x1), (2, .int p0), (0, .int p0), (1, .int p1)]) rfl (fun ls hl => ?_)
  obtain ⟨n5, h⟩ := h
  refine tL4 n5 _ _ _ _ h _ _ _ (lv_sub hl [3, 1, 0] rfl) hP hS
