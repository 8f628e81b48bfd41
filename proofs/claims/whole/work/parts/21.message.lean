theorem d_Me_isThere_0 : decode b_Me_isThere 0 = .ok (.aload_n 0, 1) := by decide +kernel
theorem d_Me_isThere_1 : decode b_Me_isThere 1 = .ok (.getfield 7, 3) := by decide +kernel
theorem d_Me_isThere_4 : decode b_Me_isThere 4 = .ok (.ifCond .eq (7), 3) := by decide +kernel
theorem d_Me_isThere_7 : decode b_Me_isThere 7 = .ok (.iconst (1), 1) := by decide +kernel
theorem d_Me_isThere_8 : decode b_Me_isThere 8 = .ok (.goto (4), 3) := by decide +kernel
theorem d_Me_isThere_11 : decode b_Me_isThere 11 = .ok (.iconst (0), 1) := by decide +kernel
theorem d_Me_isThere_12 : decode b_Me_isThere 12 = .ok (.ireturn, 1) := by decide +kernel
theorem d_Me_kind_0 : decode b_Me_kind 0 = .ok (.aload_n 0, 1) := by decide +kernel
theorem d_Me_kind_1 : decode b_Me_kind 1 = .ok (.getfield 7, 3) := by decide +kernel
theorem d_Me_kind_4 : decode b_Me_kind 4 = .ok (.invokestatic 13, 3) := by decide +kernel
theorem d_Me_kind_7 : decode b_Me_kind 7 = .ok (.ireturn, 1) := by decide +kernel
theorem d_Me_put_0 : decode b_Me_put 0 = .ok (.aload_n 0, 1) := by decide +kernel
theorem d_Me_put_1 : decode b_Me_put 1 = .ok (.iload_n 1, 1) := by decide +kernel
theorem d_Me_put_2 : decode b_Me_put 2 = .ok (.putfield 7, 3) := by decide +kernel
theorem d_Me_put_5 : decode b_Me_put 5 = .ok (.aload_n 0, 1) := by decide +kernel
theorem d_Me_put_6 : decode b_Me_put 6 = .ok (.iconst (0), 1) := by decide +kernel
theorem d_Me_put_7 : decode b_Me_put 7 = .ok (.putfield 19, 3) := by decide +kernel
theorem d_Me_put_10 : decode b_Me_put 10 = .ok (.aload_n 0, 1) := by decide +kernel
theorem d_Me_put_11 : decode b_Me_put 11 = .ok (.iconst (0), 1) := by decide +kernel
theorem d_Me_put_12 : decode b_Me_put 12 = .ok (.putfield 22, 3) := by decide +kernel
theorem d_Me_put_15 : decode b_Me_put 15 = .ok (.aload_n 0, 1) := by decide +kernel
theorem d_Me_put_16 : decode b_Me_put 16 = .ok (.iconst (0), 1) := by decide +kernel
theorem d_Me_put_17 : decode b_Me_put 17 = .ok (.putfield 25, 3) := by decide +kernel
theorem d_Me_put_20 : decode b_Me_put 20 = .ok (.return_, 1) := by decide +kernel
theorem d_Me_drop_0 : decode b_Me_drop 0 = .ok (.aload_n 0, 1) := by decide +kernel
theorem d_Me_drop_1 : decode b_Me_drop 1 = .ok (.iconst (0), 1) := by decide +kernel
theorem d_Me_drop_2 : decode b_Me_drop 2 = .ok (.invokevirtual 29, 3) := by decide +kernel
theorem d_Me_drop_5 : decode b_Me_drop 5 = .ok (.return_, 1) := by decide +kernel
theorem d_Me_comesUp_0 : decode b_Me_comesUp 0 = .ok (.aload_n 0, 1) := by decide +kernel
theorem d_Me_comesUp_1 : decode b_Me_comesUp 1 = .ok (.aload_n 0, 1) := by decide +kernel
theorem d_Me_comesUp_2 : decode b_Me_comesUp 2 = .ok (.getfield 22, 3) := by decide +kernel
theorem d_Me_comesUp_5 : decode b_Me_comesUp 5 = .ok (.ifCond .ne (7), 3) := by decide +kernel
theorem d_Me_comesUp_8 : decode b_Me_comesUp 8 = .ok (.iconst (1), 1) := by decide +kernel
theorem d_Me_comesUp_9 : decode b_Me_comesUp 9 = .ok (.goto (4), 3) := by decide +kernel
theorem d_Me_comesUp_12 : decode b_Me_comesUp 12 = .ok (.iconst (0), 1) := by decide +kernel
theorem d_Me_comesUp_13 : decode b_Me_comesUp 13 = .ok (.putfield 25, 3) := by decide +kernel
theorem d_Me_comesUp_16 : decode b_Me_comesUp 16 = .ok (.aload_n 0, 1) := by decide +kernel
theorem d_Me_comesUp_17 : decode b_Me_comesUp 17 = .ok (.getfield 25, 3) := by decide +kernel
theorem d_Me_comesUp_20 : decode b_Me_comesUp 20 = .ok (.ifCond .ne (13), 3) := by decide +kernel
theorem d_Me_comesUp_23 : decode b_Me_comesUp 23 = .ok (.aload_n 0, 1) := by decide +kernel
theorem d_Me_comesUp_24 : decode b_Me_comesUp 24 = .ok (.dup, 1) := by decide +kernel
theorem d_Me_comesUp_25 : decode b_Me_comesUp 25 = .ok (.getfield 22, 3) := by decide +kernel
theorem d_Me_comesUp_28 : decode b_Me_comesUp 28 = .ok (.iconst (1), 1) := by decide +kernel
theorem d_Me_comesUp_29 : decode b_Me_comesUp 29 = .ok (.isub, 1) := by decide +kernel
theorem d_Me_comesUp_30 : decode b_Me_comesUp 30 = .ok (.putfield 22, 3) := by decide +kernel
theorem d_Me_comesUp_33 : decode b_Me_comesUp 33 = .ok (.aload_n 0, 1) := by decide +kernel
theorem d_Me_comesUp_34 : decode b_Me_comesUp 34 = .ok (.getfield 25, 3) := by decide +kernel
theorem d_Me_comesUp_37 : decode b_Me_comesUp 37 = .ok (.ireturn, 1) := by decide +kernel
def p_Me_isThere (a0 : Nat) (post : Int32 → SI → SJ → Prop) (I : SI) (J : SJ) : Prop :=
  (((I (22 + a0) 0) = (0) → post (0 : Int32) I J) ∧ (¬ (I (22 + a0) 0) = (0) → post (1 : Int32) I J))
abbrev rm_Me_isThere : Room := { frames := 0, cells := 0, slots := 0, locals := 0 }
def p_Me_kind (a0 : Nat) (post : Int32 → SI → SJ → Prop) (I : SI) (J : SJ) : Prop :=
  p_Bk_kindOf (I (22 + a0) 0) (fun r3 I1 J2 => post r3 I1 J2) I J
abbrev rm_Me_kind : Room := { frames := 1, cells := 0, slots := 0, locals := 20 }
def p_Me_put (a0 : Nat) (p1 : Int32) (post : SI → SJ → Prop) (I : SI) (J : SJ) : Prop :=
  ∀ I1, I1 = xu I (22 + a0) 0 p1 → ∀ I2, I2 = xu I1 (22 + a0) 1 (0 : Int32) → ∀ I3, I3 = xu I2 (22 + a0) 2 (0 : Int32) → ∀ I4, I4 = xu I3 (22 + a0) 3 (0 : Int32) → post I4 J
abbrev rm_Me_put : Room := { frames := 0, cells := 0, slots := 0, locals := 0 }
def p_Me_drop (a0 : Nat) (post : SI → SJ → Prop) (I : SI) (J : SJ) : Prop :=
  p_Me_put a0 (0 : Int32) (fun I1 J2 => post I1 J2) I J
abbrev rm_Me_drop : Room := { frames := 1, cells := 0, slots := 0, locals := 21 }
def p_Me_comesUp_13 (a0 : Nat) (post : Int32 → SI → SJ → Prop) (s0 : Int32) (I : SI) (J : SJ) : Prop :=
  (s0 = 0 ∨ s0 = 1) ∧ ∀ I1, I1 = xu I (22 + a0) 3 s0 → ((¬ (I1 (22 + a0) 3) = (0) → (I1 (22 + a0) 3 = 0 ∨ I1 (22 + a0) 3 = 1) ∧ post (I1 (22 + a0) 3) I1 J) ∧ ((I1 (22 + a0) 3) = (0) → ∀ I2, I2 = xu I1 (22 + a0) 2 ((I1 (22 + a0) 2) - (1 : Int32)) → (I2 (22 + a0) 3 = 0 ∨ I2 (22 + a0) 3 = 1) ∧ post (I2 (22 + a0) 3) I2 J))
def p_Me_comesUp (a0 : Nat) (post : Int32 → SI → SJ → Prop) (I : SI) (J : SJ) : Prop :=
  ((¬ (I (22 + a0) 2) = (0) → p_Me_comesUp_13 a0 post (0 : Int32) I J) ∧ ((I (22 + a0) 2) = (0) → p_Me_comesUp_13 a0 post (1 : Int32) I J))
abbrev rm_Me_comesUp : Room := { frames := 0, cells := 0, slots := 0, locals := 0 }
set_option maxHeartbeats 4000000 in
set_option maxRecDepth 100000 in
theorem c_Me_isThere (l : Launch) (D : va_G) (κ : Nat → ClassId) {Θ : Nat → Nat} (hΘ : xJ 52 Θ) (sz : Nat) (a0 : Nat) (h_a0 : a0 < 8) (I : SI) (J : SJ) (post : Int32 → SI → SJ → Prop) (h : p_Me_isThere a0 post I J) : Met l y_Me_isThere WS rm_Me_isThere (va_Pc [.ref (Θ (22 + a0))] (xPR D clA (tysA κ) 52 Θ (eC Θ κ) sz I J)) (xQi D clA 52 Θ (eC Θ κ) sz post) 0 0 (xA 52 Θ sz) := by
  refine xMet (cc := b_Me_isThere) (maxL := 1) (ret := (some .boolean)) (by decide) q_Me_isThere.1 ?_
  intro p e s m args below meth c s₁ B hml hv
  obtain ⟨hargs, hsz, hP, hK, hN, hG⟩ := hv
  have hx := B.exec
  have hb := B.bytes
  have hr := B.returns
  have hlocks := B.notSynchronized
  have hts := atoms_spec (ws := WS) B.pre
  have hown : s.vm.findClass R_Me = some m.cls := findClass_of_methodNamed B.named
  have C : xC p m c b_Me_isThere 1 s args R_Me D clA (tysA κ) 52 Θ sz := ⟨⟨hx, hb, hml, hown, hts⟩, hK, hN, hG, hsz⟩
  have hS : va_S (xA 52 Θ sz) s.heap s.heap [] := va_S.rf
  have hE := lg_entry_eq m [.ref (Θ (22 + a0))] 1
  rw [← hargs] at hE
  rw [hE]
  have hl := lv_entry [.ref (Θ (22 + a0))] (n := 1) (Nat.le_of_ble_eq_true rfl)
  generalize (lg_sl [.ref (Θ (22 + a0))] ++ List.replicate (1 - (lg_sl [.ref (Θ (22 + a0))]).length) Slot.unset).toArray = ls at hl ⊢
  have hl : lv_has ls 1 [(0, .ref (Θ (22 + a0)))] := hl
  unfold p_Me_isThere at h
  refine lv_aload_n hx hb d_Me_isThere_0 rfl (lv_at hl 0 rfl) ?_
  refine gfC_Me_7 C hP h_a0 d_Me_isThere_1 ?_
  refine lv_if_eq hx hb d_Me_isThere_4 (tgt := 11) rfl (fun hc1 => ?_) (fun hc1 => ?_)
  · have h := h.1 hc1
    refine lv_iconst (v := (0 : Int32)) hx hb d_Me_isThere_11 (by decide) ?_
    exact x_zret hx hb hr hlocks hP hS (by decide) h d_Me_isThere_12
  · have h := h.2 hc1
    refine lv_iconst (v := (1 : Int32)) hx hb d_Me_isThere_7 (by decide) ?_
    refine lv_goto hx hb d_Me_isThere_8 (tgt := 12) rfl ?_
    exact x_zret hx hb hr hlocks hP hS (by decide) h d_Me_isThere_12
set_option maxHeartbeats 4000000 in
set_option maxRecDepth 100000 in
theorem c_Me_kind (l : Launch) (D : va_G) (κ : Nat → ClassId) {Θ : Nat → Nat} (hΘ : xJ 52 Θ) (sz : Nat) (a0 : Nat) (h_a0 : a0 < 8) (I : SI) (J : SJ) (post : Int32 → SI → SJ → Prop) (h : p_Me_kind a0 post I J) : Met l y_Me_kind WS rm_Me_kind (va_Pc [.ref (Θ (22 + a0))] (xPR D clA (tysA κ) 52 Θ (eC Θ κ) sz I J)) (xQi D clA 52 Θ (eC Θ κ) sz post) 0 0 (xA 52 Θ sz) := by
  refine xMet (cc := b_Me_kind) (maxL := 1) (ret := (some .int)) (by decide) q_Me_kind.1 ?_
  intro p e s m args below meth c s₁ B hml hv
  obtain ⟨hargs, hsz, hP, hK, hN, hG⟩ := hv
  have hx := B.exec
  have hb := B.bytes
  have hr := B.returns
  have hlocks := B.notSynchronized
  have hts := atoms_spec (ws := WS) B.pre
  have hown : s.vm.findClass R_Me = some m.cls := findClass_of_methodNamed B.named
  have C : xC p m c b_Me_kind 1 s args R_Me D clA (tysA κ) 52 Θ sz := ⟨⟨hx, hb, hml, hown, hts⟩, hK, hN, hG, hsz⟩
  have hS : va_S (xA 52 Θ sz) s.heap s.heap [] := va_S.rf
  have hE := lg_entry_eq m [.ref (Θ (22 + a0))] 1
  rw [← hargs] at hE
  rw [hE]
  have hl := lv_entry [.ref (Θ (22 + a0))] (n := 1) (Nat.le_of_ble_eq_true rfl)
  generalize (lg_sl [.ref (Θ (22 + a0))] ++ List.replicate (1 - (lg_sl [.ref (Θ (22 + a0))]).length) Slot.unset).toArray = ls at hl ⊢
  have hl : lv_has ls 1 [(0, .ref (Θ (22 + a0)))] := hl
  unfold p_Me_kind at h
  refine lv_aload_n hx hb d_Me_kind_0 rfl (lv_at hl 0 rfl) ?_
  refine gfC_Me_7 C hP h_a0 d_Me_kind_1 ?_
  refine x_gi (x_S C hP hS (c_Bk_kindOf l D κ hΘ sz (I (22 + a0) 0) I J _ h) q_Bk_kindOf k_250 k_249 rfl rfl ⟨Nat.le_of_ble_eq_true rfl, Nat.le_of_ble_eq_true rfl⟩ rfl hl.1 rfl (Nat.le_of_ble_eq_true rfl) d_Me_kind_4) hS (fun r3 I1 J2 h H locs hP hS => ?_)
  exact x_iret hx hb hr hlocks hP hS h d_Me_kind_7
set_option maxHeartbeats 4000000 in
set_option maxRecDepth 100000 in
theorem c_Me_put (l : Launch) (D : va_G) (κ : Nat → ClassId) {Θ : Nat → Nat} (hΘ : xJ 52 Θ) (sz : Nat) (a0 : Nat) (h_a0 : a0 < 8) (p1 : Int32) (I : SI) (J : SJ) (post : SI → SJ → Prop) (h : p_Me_put a0 p1 post I J) : Met l y_Me_put WS rm_Me_put (va_Pc [.ref (Θ (22 + a0)), .int p1] (xPR D clA (tysA κ) 52 Θ (eC Θ κ) sz I J)) (xQv D clA 52 Θ (eC Θ κ) sz post) 0 0 (xA 52 Θ sz) := by
  refine xMet (cc := b_Me_put) (maxL := 2) (ret := none) (by decide) q_Me_put.1 ?_
  intro p e s m args below meth c s₁ B hml hv
  obtain ⟨hargs, hsz, hP, hK, hN, hG⟩ := hv
  have hx := B.exec
  have hb := B.bytes
  have hr := B.returns
  have hlocks := B.notSynchronized
  have hts := atoms_spec (ws := WS) B.pre
  have hown : s.vm.findClass R_Me = some m.cls := findClass_of_methodNamed B.named
  have C : xC p m c b_Me_put 2 s args R_Me D clA (tysA κ) 52 Θ sz := ⟨⟨hx, hb, hml, hown, hts⟩, hK, hN, hG, hsz⟩
  have hS : va_S (xA 52 Θ sz) s.heap s.heap [] := va_S.rf
  have hE := lg_entry_eq m [.ref (Θ (22 + a0)), .int p1] 2
  rw [← hargs] at hE
  rw [hE]
  have hl := lv_entry [.ref (Θ (22 + a0)), .int p1] (n := 2) (Nat.le_of_ble_eq_true rfl)
  generalize (lg_sl [.ref (Θ (22 + a0)), .int p1] ++ List.replicate (2 - (lg_sl [.ref (Θ (22 + a0)), .int p1]).length) Slot.unset).toArray = ls at hl ⊢
  have hl : lv_has ls 2 [(0, .ref (Θ (22 + a0))), (1, .int p1)] := hl
  unfold p_Me_put at h
  refine lv_aload_n hx hb d_Me_put_0 rfl (lv_at hl 0 rfl) ?_
  refine lv_iload_n hx hb d_Me_put_1 rfl (lv_at hl 1 rfl) ?_
  refine pfC_Me_7 C hΘ hP hS h_a0 d_Me_put_2 (fun H locs hP hS => ?_)
  obtain ⟨I1, eI1⟩ : ∃ y, y = xu I (22 + a0) 0 p1 := ⟨_, rfl⟩
  have hP : va_P D clA (xw 52 Θ (eC Θ κ) I1 J) H := by rw [eI1]; exact hP
  have h := h I1 eI1
  refine lv_aload_n hx hb d_Me_put_5 rfl (lv_at hl 0 rfl) ?_
  refine lv_iconst (v := (0 : Int32)) hx hb d_Me_put_6 (by decide) ?_
  refine pfC_Me_19 C hΘ hP hS h_a0 d_Me_put_7 (fun H locs hP hS => ?_)
  obtain ⟨I2, eI2⟩ : ∃ y, y = xu I1 (22 + a0) 1 (0 : Int32) := ⟨_, rfl⟩
  have hP : va_P D clA (xw 52 Θ (eC Θ κ) I2 J) H := by rw [eI2]; exact hP
  have h := h I2 eI2
  refine lv_aload_n hx hb d_Me_put_10 rfl (lv_at hl 0 rfl) ?_
  refine lv_iconst (v := (0 : Int32)) hx hb d_Me_put_11 (by decide) ?_
  refine pfC_Me_22 C hΘ hP hS h_a0 d_Me_put_12 (fun H locs hP hS => ?_)
  obtain ⟨I3, eI3⟩ : ∃ y, y = xu I2 (22 + a0) 2 (0 : Int32) := ⟨_, rfl⟩
  have hP : va_P D clA (xw 52 Θ (eC Θ κ) I3 J) H := by rw [eI3]; exact hP
  have h := h I3 eI3
  refine lv_aload_n hx hb d_Me_put_15 rfl (lv_at hl 0 rfl) ?_
  refine lv_iconst (v := (0 : Int32)) hx hb d_Me_put_16 (by decide) ?_
  refine pfC_Me_25 C hΘ hP hS h_a0 d_Me_put_17 (by decide) (fun H locs hP hS => ?_)
  obtain ⟨I4, eI4⟩ : ∃ y, y = xu I3 (22 + a0) 3 (0 : Int32) := ⟨_, rfl⟩
  have hP : va_P D clA (xw 52 Θ (eC Θ κ) I4 J) H := by rw [eI4]; exact hP
  have h := h I4 eI4
  exact x_vret hx hb hr hlocks hP hS h d_Me_put_20
set_option maxHeartbeats 4000000 in
set_option maxRecDepth 100000 in
theorem c_Me_drop (l : Launch) (D : va_G) (κ : Nat → ClassId) {Θ : Nat → Nat} (hΘ : xJ 52 Θ) (sz : Nat) (a0 : Nat) (h_a0 : a0 < 8) (I : SI) (J : SJ) (post : SI → SJ → Prop) (h : p_Me_drop a0 post I J) : Met l y_Me_drop WS rm_Me_drop (va_Pc [.ref (Θ (22 + a0))] (xPR D clA (tysA κ) 52 Θ (eC Θ κ) sz I J)) (xQv D clA 52 Θ (eC Θ κ) sz post) 0 0 (xA 52 Θ sz) := by
  refine xMet (cc := b_Me_drop) (maxL := 1) (ret := none) (by decide) q_Me_drop.1 ?_
  intro p e s m args below meth c s₁ B hml hv
  obtain ⟨hargs, hsz, hP, hK, hN, hG⟩ := hv
  have hx := B.exec
  have hb := B.bytes
  have hr := B.returns
  have hlocks := B.notSynchronized
  have hts := atoms_spec (ws := WS) B.pre
  have hown : s.vm.findClass R_Me = some m.cls := findClass_of_methodNamed B.named
  have C : xC p m c b_Me_drop 1 s args R_Me D clA (tysA κ) 52 Θ sz := ⟨⟨hx, hb, hml, hown, hts⟩, hK, hN, hG, hsz⟩
  have hS : va_S (xA 52 Θ sz) s.heap s.heap [] := va_S.rf
  have hE := lg_entry_eq m [.ref (Θ (22 + a0))] 1
  rw [← hargs] at hE
  rw [hE]
  have hl := lv_entry [.ref (Θ (22 + a0))] (n := 1) (Nat.le_of_ble_eq_true rfl)
  generalize (lg_sl [.ref (Θ (22 + a0))] ++ List.replicate (1 - (lg_sl [.ref (Θ (22 + a0))]).length) Slot.unset).toArray = ls at hl ⊢
  have hl : lv_has ls 1 [(0, .ref (Θ (22 + a0)))] := hl
  unfold p_Me_drop at h
  refine lv_aload_n hx hb d_Me_drop_0 rfl (lv_at hl 0 rfl) ?_
  refine lv_iconst (v := (0 : Int32)) hx hb d_Me_drop_1 (by decide) ?_
  refine x_gv (x_V C hP hS (xlt h_a0 rfl) ((eC_Me h_a0) _ _) rfl (c_Me_put l D κ hΘ sz a0 h_a0 (0 : Int32) I J _ h) q_Me_put k_435 k_436 k_434 rfl rfl ⟨Nat.le_of_ble_eq_true rfl, Nat.le_of_ble_eq_true rfl⟩ rfl hl.1 rfl (Nat.le_of_ble_eq_true rfl) d_Me_drop_2) hS (fun I1 J2 h H locs hP hS => ?_)
  exact x_vret hx hb hr hlocks hP hS h d_Me_drop_5
set_option maxHeartbeats 4000000 in
set_option maxRecDepth 100000 in
theorem c_Me_comesUp (l : Launch) (D : va_G) (κ : Nat → ClassId) {Θ : Nat → Nat} (hΘ : xJ 52 Θ) (sz : Nat) (a0 : Nat) (h_a0 : a0 < 8) (I : SI) (J : SJ) (post : Int32 → SI → SJ → Prop) (h : p_Me_comesUp a0 post I J) : Met l y_Me_comesUp WS rm_Me_comesUp (va_Pc [.ref (Θ (22 + a0))] (xPR D clA (tysA κ) 52 Θ (eC Θ κ) sz I J)) (xQi D clA 52 Θ (eC Θ κ) sz post) 0 0 (xA 52 Θ sz) := by
  refine xMet (cc := b_Me_comesUp) (maxL := 1) (ret := (some .boolean)) (by decide) q_Me_comesUp.1 ?_
  intro p e s m args below meth c s₁ B hml hv
  obtain ⟨hargs, hsz, hP, hK, hN, hG⟩ := hv
  have hx := B.exec
  have hb := B.bytes
  have hr := B.returns
  have hlocks := B.notSynchronized
  have hts := atoms_spec (ws := WS) B.pre
  have hown : s.vm.findClass R_Me = some m.cls := findClass_of_methodNamed B.named
  have C : xC p m c b_Me_comesUp 1 s args R_Me D clA (tysA κ) 52 Θ sz := ⟨⟨hx, hb, hml, hown, hts⟩, hK, hN, hG, hsz⟩
  have hS : va_S (xA 52 Θ sz) s.heap s.heap [] := va_S.rf
  have tJ13 : ∀ (s0 : Int32) (I : SI) (J : SJ), p_Me_comesUp_13 a0 post s0 I J → ∀ (H : Heap) (locs : List Loc) (ls : Array Slot), lv_has ls 1 [(0, .ref (Θ (22 + a0)))] → va_P D clA (xw 52 Θ (eC Θ κ) I J) H → va_S (xA 52 Θ sz) s.heap H locs → W p l e (headSpec WS rm_Me_comesUp).room s m args below meth c H locs 0 0 (MQ below (xQi D clA 52 Θ (eC Θ κ) sz post) args s 0 0 (xA 52 Θ sz)) (F0 m 13 ls [.int s0, .ref (Θ (22 + a0))]) := by
    intro s0 I J h H locs ls hl hP hS
    unfold p_Me_comesUp_13 at h
    obtain ⟨hz, h⟩ := h
    refine pfC_Me_25 C hΘ hP hS h_a0 d_Me_comesUp_13 hz (fun H locs hP hS => ?_)
    obtain ⟨I1, eI1⟩ : ∃ y, y = xu I (22 + a0) 3 s0 := ⟨_, rfl⟩
    have hP : va_P D clA (xw 52 Θ (eC Θ κ) I1 J) H := by rw [eI1]; exact hP
    have h := h I1 eI1
    refine lv_aload_n hx hb d_Me_comesUp_16 rfl (lv_at hl 0 rfl) ?_
    refine gfC_Me_25 C hP h_a0 d_Me_comesUp_17 ?_
    refine lv_if_ne hx hb d_Me_comesUp_20 (tgt := 33) rfl (fun hc3 => ?_) (fun hc3 => ?_)
    · have h := h.1 hc3
      refine lv_aload_n hx hb d_Me_comesUp_33 rfl (lv_at hl 0 rfl) ?_
      refine gfC_Me_25 C hP h_a0 d_Me_comesUp_34 ?_
      exact x_zret hx hb hr hlocks hP hS h.1 h.2 d_Me_comesUp_37
    · have h := h.2 hc3
      refine lv_aload_n hx hb d_Me_comesUp_23 rfl (lv_at hl 0 rfl) ?_
      refine lv_dup hx hb d_Me_comesUp_24 rfl ?_
      refine gfC_Me_22 C hP h_a0 d_Me_comesUp_25 ?_
      refine lv_iconst (v := (1 : Int32)) hx hb d_Me_comesUp_28 (by decide) ?_
      refine lv_isub hx hb d_Me_comesUp_29 ?_
      refine pfC_Me_22 C hΘ hP hS h_a0 d_Me_comesUp_30 (fun H locs hP hS => ?_)
      obtain ⟨I2, eI2⟩ : ∃ y, y = xu I1 (22 + a0) 2 ((I1 (22 + a0) 2) - (1 : Int32)) := ⟨_, rfl⟩
      have hP : va_P D clA (xw 52 Θ (eC Θ κ) I2 J) H := by rw [eI2]; exact hP
      have h := h I2 eI2
      refine lv_aload_n hx hb d_Me_comesUp_33 rfl (lv_at hl 0 rfl) ?_
      refine gfC_Me_25 C hP h_a0 d_Me_comesUp_34 ?_
      exact x_zret hx hb hr hlocks hP hS h.1 h.2 d_Me_comesUp_37
  have hE := lg_entry_eq m [.ref (Θ (22 + a0))] 1
  rw [← hargs] at hE
  rw [hE]
  have hl := lv_entry [.ref (Θ (22 + a0))] (n := 1) (Nat.le_of_ble_eq_true rfl)
  generalize (lg_sl [.ref (Θ (22 + a0))] ++ List.replicate (1 - (lg_sl [.ref (Θ (22 + a0))]).length) Slot.unset).toArray = ls at hl ⊢
  have hl : lv_has ls 1 [(0, .ref (Θ (22 + a0)))] := hl
  unfold p_Me_comesUp at h
  refine lv_aload_n hx hb d_Me_comesUp_0 rfl (lv_at hl 0 rfl) ?_
  refine lv_aload_n hx hb d_Me_comesUp_1 rfl (lv_at hl 0 rfl) ?_
  refine gfC_Me_22 C hP h_a0 d_Me_comesUp_2 ?_
  refine lv_if_ne hx hb d_Me_comesUp_5 (tgt := 12) rfl (fun hc4 => ?_) (fun hc4 => ?_)
  · have h := h.1 hc4
    refine lv_iconst (v := (0 : Int32)) hx hb d_Me_comesUp_12 (by decide) ?_
    exact tJ13 _ _ _ h _ _ _ (lv_sub hl [0] rfl) hP hS
  · have h := h.2 hc4
    refine lv_iconst (v := (1 : Int32)) hx hb d_Me_comesUp_8 (by decide) ?_
    refine lv_goto hx hb d_Me_comesUp_9 (tgt := 13) rfl ?_
    exact tJ13 _ _ _ h _ _ _ (lv_sub hl [0] rfl) hP hS
