theorem d_Ce_sayLast_0 : decode b_Ce_sayLast 0 = .ok (.aload_n 0, 1) := by decide +kernel
theorem d_Ce_sayLast_1 : decode b_Ce_sayLast 1 = .ok (.getfield 15, 3) := by decide +kernel
theorem d_Ce_sayLast_4 : decode b_Ce_sayLast 4 = .ok (.bipush (8), 2) := by decide +kernel
theorem d_Ce_sayLast_6 : decode b_Ce_sayLast 6 = .ok (.if_icmp .ge (23), 3) := by decide +kernel
theorem d_Ce_sayLast_9 : decode b_Ce_sayLast 9 = .ok (.aload_n 0, 1) := by decide +kernel
theorem d_Ce_sayLast_10 : decode b_Ce_sayLast 10 = .ok (.getfield 9, 3) := by decide +kernel
theorem d_Ce_sayLast_13 : decode b_Ce_sayLast 13 = .ok (.aload_n 0, 1) := by decide +kernel
theorem d_Ce_sayLast_14 : decode b_Ce_sayLast 14 = .ok (.getfield 15, 3) := by decide +kernel
theorem d_Ce_sayLast_17 : decode b_Ce_sayLast 17 = .ok (.iload_n 1, 1) := by decide +kernel
theorem d_Ce_sayLast_18 : decode b_Ce_sayLast 18 = .ok (.iastore, 1) := by decide +kernel
theorem d_Ce_sayLast_19 : decode b_Ce_sayLast 19 = .ok (.aload_n 0, 1) := by decide +kernel
theorem d_Ce_sayLast_20 : decode b_Ce_sayLast 20 = .ok (.dup, 1) := by decide +kernel
theorem d_Ce_sayLast_21 : decode b_Ce_sayLast 21 = .ok (.getfield 15, 3) := by decide +kernel
theorem d_Ce_sayLast_24 : decode b_Ce_sayLast 24 = .ok (.iconst (1), 1) := by decide +kernel
theorem d_Ce_sayLast_25 : decode b_Ce_sayLast 25 = .ok (.iadd, 1) := by decide +kernel
theorem d_Ce_sayLast_26 : decode b_Ce_sayLast 26 = .ok (.putfield 15, 3) := by decide +kernel
theorem d_Ce_sayLast_29 : decode b_Ce_sayLast 29 = .ok (.return_, 1) := by decide +kernel
theorem d_Ce_sayFirst_0 : decode b_Ce_sayFirst 0 = .ok (.aload_n 0, 1) := by decide +kernel
theorem d_Ce_sayFirst_1 : decode b_Ce_sayFirst 1 = .ok (.getfield 15, 3) := by decide +kernel
theorem d_Ce_sayFirst_4 : decode b_Ce_sayFirst 4 = .ok (.bipush (7), 2) := by decide +kernel
theorem d_Ce_sayFirst_6 : decode b_Ce_sayFirst 6 = .ok (.invokestatic 19, 3) := by decide +kernel
theorem d_Ce_sayFirst_9 : decode b_Ce_sayFirst 9 = .ok (.istore_n 2, 1) := by decide +kernel
theorem d_Ce_sayFirst_10 : decode b_Ce_sayFirst 10 = .ok (.aload_n 0, 1) := by decide +kernel
theorem d_Ce_sayFirst_11 : decode b_Ce_sayFirst 11 = .ok (.getfield 9, 3) := by decide +kernel
theorem d_Ce_sayFirst_14 : decode b_Ce_sayFirst 14 = .ok (.iconst (0), 1) := by decide +kernel
theorem d_Ce_sayFirst_15 : decode b_Ce_sayFirst 15 = .ok (.aload_n 0, 1) := by decide +kernel
theorem d_Ce_sayFirst_16 : decode b_Ce_sayFirst 16 = .ok (.getfield 9, 3) := by decide +kernel
theorem d_Ce_sayFirst_19 : decode b_Ce_sayFirst 19 = .ok (.iconst (1), 1) := by decide +kernel
theorem d_Ce_sayFirst_20 : decode b_Ce_sayFirst 20 = .ok (.iload_n 2, 1) := by decide +kernel
theorem d_Ce_sayFirst_21 : decode b_Ce_sayFirst 21 = .ok (.invokestatic 25, 3) := by decide +kernel
theorem d_Ce_sayFirst_24 : decode b_Ce_sayFirst 24 = .ok (.aload_n 0, 1) := by decide +kernel
theorem d_Ce_sayFirst_25 : decode b_Ce_sayFirst 25 = .ok (.getfield 9, 3) := by decide +kernel
theorem d_Ce_sayFirst_28 : decode b_Ce_sayFirst 28 = .ok (.iconst (0), 1) := by decide +kernel
theorem d_Ce_sayFirst_29 : decode b_Ce_sayFirst 29 = .ok (.iload_n 1, 1) := by decide +kernel
theorem d_Ce_sayFirst_30 : decode b_Ce_sayFirst 30 = .ok (.iastore, 1) := by decide +kernel
theorem d_Ce_sayFirst_31 : decode b_Ce_sayFirst 31 = .ok (.aload_n 0, 1) := by decide +kernel
theorem d_Ce_sayFirst_32 : decode b_Ce_sayFirst 32 = .ok (.iload_n 2, 1) := by decide +kernel
theorem d_Ce_sayFirst_33 : decode b_Ce_sayFirst 33 = .ok (.iconst (1), 1) := by decide +kernel
theorem d_Ce_sayFirst_34 : decode b_Ce_sayFirst 34 = .ok (.iadd, 1) := by decide +kernel
theorem d_Ce_sayFirst_35 : decode b_Ce_sayFirst 35 = .ok (.putfield 15, 3) := by decide +kernel
theorem d_Ce_sayFirst_38 : decode b_Ce_sayFirst 38 = .ok (.return_, 1) := by decide +kernel
theorem d_Ce_nextToSay_0 : decode b_Ce_nextToSay 0 = .ok (.aload_n 0, 1) := by decide +kernel
theorem d_Ce_nextToSay_1 : decode b_Ce_nextToSay 1 = .ok (.getfield 15, 3) := by decide +kernel
theorem d_Ce_nextToSay_4 : decode b_Ce_nextToSay 4 = .ok (.ifCond .ne (5), 3) := by decide +kernel
theorem d_Ce_nextToSay_7 : decode b_Ce_nextToSay 7 = .ok (.iconst (-1), 1) := by decide +kernel
theorem d_Ce_nextToSay_8 : decode b_Ce_nextToSay 8 = .ok (.ireturn, 1) := by decide +kernel
theorem d_Ce_nextToSay_9 : decode b_Ce_nextToSay 9 = .ok (.aload_n 0, 1) := by decide +kernel
theorem d_Ce_nextToSay_10 : decode b_Ce_nextToSay 10 = .ok (.getfield 9, 3) := by decide +kernel
theorem d_Ce_nextToSay_13 : decode b_Ce_nextToSay 13 = .ok (.iconst (0), 1) := by decide +kernel
theorem d_Ce_nextToSay_14 : decode b_Ce_nextToSay 14 = .ok (.iaload, 1) := by decide +kernel
theorem d_Ce_nextToSay_15 : decode b_Ce_nextToSay 15 = .ok (.istore_n 1, 1) := by decide +kernel
theorem d_Ce_nextToSay_16 : decode b_Ce_nextToSay 16 = .ok (.aload_n 0, 1) := by decide +kernel
theorem d_Ce_nextToSay_17 : decode b_Ce_nextToSay 17 = .ok (.dup, 1) := by decide +kernel
theorem d_Ce_nextToSay_18 : decode b_Ce_nextToSay 18 = .ok (.getfield 15, 3) := by decide +kernel
theorem d_Ce_nextToSay_21 : decode b_Ce_nextToSay 21 = .ok (.iconst (1), 1) := by decide +kernel
theorem d_Ce_nextToSay_22 : decode b_Ce_nextToSay 22 = .ok (.isub, 1) := by decide +kernel
theorem d_Ce_nextToSay_23 : decode b_Ce_nextToSay 23 = .ok (.putfield 15, 3) := by decide +kernel
theorem d_Ce_nextToSay_26 : decode b_Ce_nextToSay 26 = .ok (.aload_n 0, 1) := by decide +kernel
theorem d_Ce_nextToSay_27 : decode b_Ce_nextToSay 27 = .ok (.getfield 9, 3) := by decide +kernel
theorem d_Ce_nextToSay_30 : decode b_Ce_nextToSay 30 = .ok (.iconst (1), 1) := by decide +kernel
theorem d_Ce_nextToSay_31 : decode b_Ce_nextToSay 31 = .ok (.aload_n 0, 1) := by decide +kernel
theorem d_Ce_nextToSay_32 : decode b_Ce_nextToSay 32 = .ok (.getfield 9, 3) := by decide +kernel
theorem d_Ce_nextToSay_35 : decode b_Ce_nextToSay 35 = .ok (.iconst (0), 1) := by decide +kernel
theorem d_Ce_nextToSay_36 : decode b_Ce_nextToSay 36 = .ok (.aload_n 0, 1) := by decide +kernel
theorem d_Ce_nextToSay_37 : decode b_Ce_nextToSay 37 = .ok (.getfield 15, 3) := by decide +kernel
theorem d_Ce_nextToSay_40 : decode b_Ce_nextToSay 40 = .ok (.invokestatic 25, 3) := by decide +kernel
theorem d_Ce_nextToSay_43 : decode b_Ce_nextToSay 43 = .ok (.iload_n 1, 1) := by decide +kernel
theorem d_Ce_nextToSay_44 : decode b_Ce_nextToSay 44 = .ok (.ireturn, 1) := by decide +kernel
theorem d_Ce_sayingAt_0 : decode b_Ce_sayingAt 0 = .ok (.iload_n 1, 1) := by decide +kernel
theorem d_Ce_sayingAt_1 : decode b_Ce_sayingAt 1 = .ok (.aload_n 0, 1) := by decide +kernel
theorem d_Ce_sayingAt_2 : decode b_Ce_sayingAt 2 = .ok (.getfield 15, 3) := by decide +kernel
theorem d_Ce_sayingAt_5 : decode b_Ce_sayingAt 5 = .ok (.invokestatic 31, 3) := by decide +kernel
theorem d_Ce_sayingAt_8 : decode b_Ce_sayingAt 8 = .ok (.ifCond .eq (12), 3) := by decide +kernel
theorem d_Ce_sayingAt_11 : decode b_Ce_sayingAt 11 = .ok (.aload_n 0, 1) := by decide +kernel
theorem d_Ce_sayingAt_12 : decode b_Ce_sayingAt 12 = .ok (.getfield 9, 3) := by decide +kernel
theorem d_Ce_sayingAt_15 : decode b_Ce_sayingAt 15 = .ok (.iload_n 1, 1) := by decide +kernel
theorem d_Ce_sayingAt_16 : decode b_Ce_sayingAt 16 = .ok (.iaload, 1) := by decide +kernel
theorem d_Ce_sayingAt_17 : decode b_Ce_sayingAt 17 = .ok (.goto (4), 3) := by decide +kernel
theorem d_Ce_sayingAt_20 : decode b_Ce_sayingAt 20 = .ok (.iconst (-1), 1) := by decide +kernel
theorem d_Ce_sayingAt_21 : decode b_Ce_sayingAt 21 = .ok (.ireturn, 1) := by decide +kernel
def p_Ce_sayLast (a0 : Nat) (p1 : Int32) (post : SI → SJ → Prop) (I : SI) (J : SJ) : Prop :=
  (((8 : Int32) ≤ (I (46 + a0) 1) → post I J) ∧ (¬ (8 : Int32) ≤ (I (46 + a0) 1) → ∃ j1, I (46 + a0) 1 = nI j1 ∧ j1 < 8 ∧ ∀ I2, I2 = xu I (49 + a0) j1 p1 → ∀ I3, I3 = xu I2 (46 + a0) 1 ((I2 (46 + a0) 1) + (1 : Int32)) → post I3 J))
abbrev rm_Ce_sayLast : Room := { frames := 0, cells := 0, slots := 0, locals := 0 }
def p_Ce_sayFirst (a0 : Nat) (p1 : Int32) (post : SI → SJ → Prop) (I : SI) (J : SJ) : Prop :=
  ∀ x1, x1 = (if (7 : Int32) < I (46 + a0) 1 then (7 : Int32) else I (46 + a0) 1) → ∃ j2 j3 j4, (0 : Int32) = nI j2 ∧ (1 : Int32) = nI j3 ∧ x1 = nI j4 ∧ j2 + j4 ≤ 8 ∧ j3 + j4 ≤ 8 ∧ ∀ I5, I5 = xr I (49 + a0) (va_cpy (I (49 + a0)) (I (49 + a0)) j2 j3 j4) → ∀ I6, I6 = xu I5 (49 + a0) 0 p1 → ∀ I7, I7 = xu I6 (46 + a0) 1 (x1 + (1 : Int32)) → post I7 J
abbrev rm_Ce_sayFirst : Room := { frames := 1, cells := 0, slots := 0, locals := 18 }
def p_Ce_nextToSay (a0 : Nat) (post : Int32 → SI → SJ → Prop) (I : SI) (J : SJ) : Prop :=
  ((¬ (I (46 + a0) 1) = (0) → ∀ x1, x1 = I (49 + a0) 0 → ∀ I2, I2 = xu I (46 + a0) 1 ((I (46 + a0) 1) - (1 : Int32)) → ∃ j3 j4 j5, (1 : Int32) = nI j3 ∧ (0 : Int32) = nI j4 ∧ I2 (46 + a0) 1 = nI j5 ∧ j3 + j5 ≤ 8 ∧ j4 + j5 ≤ 8 ∧ ∀ I6, I6 = xr I2 (49 + a0) (va_cpy (I2 (49 + a0)) (I2 (49 + a0)) j3 j4 j5) → post x1 I6 J) ∧ ((I (46 + a0) 1) = (0) → post (-1 : Int32) I J))
abbrev rm_Ce_nextToSay : Room := { frames := 1, cells := 0, slots := 0, locals := 18 }
def p_Ce_sayingAt (a0 : Nat) (p1 : Int32) (post : Int32 → SI → SJ → Prop) (I : SI) (J : SJ) : Prop :=
  p_TC_isIndex p1 (I (46 + a0) 1) (fun r3 I1 J2 => ((r3 = (0) → post (-1 : Int32) I1 J2) ∧ (¬ r3 = (0) → ∃ j4, p1 = nI j4 ∧ j4 < 8 ∧ post (I1 (49 + a0) j4) I1 J2))) I J
abbrev rm_Ce_sayingAt : Room := { frames := 1, cells := 0, slots := 0, locals := 21 }
set_option maxHeartbeats 4000000 in
set_option maxRecDepth 100000 in
theorem c_Ce_sayLast (l : Launch) (D : va_G) (κ : Nat → ClassId) {Θ : Nat → Nat} (hΘ : xJ 52 Θ) (sz : Nat) (a0 : Nat) (h_a0 : a0 < 3) (p1 : Int32) (I : SI) (J : SJ) (post : SI → SJ → Prop) (h : p_Ce_sayLast a0 p1 post I J) : Met l y_Ce_sayLast WS rm_Ce_sayLast (va_Pc [.ref (Θ (46 + a0)), .int p1] (xPR D clA (tysA κ) 52 Θ (eC Θ κ) sz I J)) (xQv D clA 52 Θ (eC Θ κ) sz post) 0 0 (xA 52 Θ sz) := by
  refine xMet (cc := b_Ce_sayLast) (maxL := 2) (ret := none) (by decide) q_Ce_sayLast.1 ?_
  intro p e s m args below meth c s₁ B hml hv
  obtain ⟨hargs, hsz, hP, hK, hN, hG⟩ := hv
  have hx := B.exec
  have hb := B.bytes
  have hr := B.returns
  have hlocks := B.notSynchronized
  have hts := atoms_spec (ws := WS) B.pre
  have hown : s.vm.findClass R_Ce = some m.cls := findClass_of_methodNamed B.named
  have C : xC p m c b_Ce_sayLast 2 s args R_Ce D clA (tysA κ) 52 Θ sz := ⟨⟨hx, hb, hml, hown, hts⟩, hK, hN, hG, hsz⟩
  have hS : va_S (xA 52 Θ sz) s.heap s.heap [] := va_S.rf
  have hE := lg_entry_eq m [.ref (Θ (46 + a0)), .int p1] 2
  rw [← hargs] at hE
  rw [hE]
  have hl := lv_entry [.ref (Θ (46 + a0)), .int p1] (n := 2) (Nat.le_of_ble_eq_true rfl)
  generalize (lg_sl [.ref (Θ (46 + a0)), .int p1] ++ List.replicate (2 - (lg_sl [.ref (Θ (46 + a0)), .int p1]).length) Slot.unset).toArray = ls at hl ⊢
  have hl : lv_has ls 2 [(0, .ref (Θ (46 + a0))), (1, .int p1)] := hl
  unfold p_Ce_sayLast at h
  refine lv_aload_n hx hb d_Ce_sayLast_0 rfl (lv_at hl 0 rfl) ?_
  refine gfC_Ce_15 C hP h_a0 d_Ce_sayLast_1 ?_
  refine lv_bipush (v := (8 : Int32)) hx hb d_Ce_sayLast_4 (by decide) ?_
  refine lv_icmp_ge hx hb d_Ce_sayLast_6 (tgt := 29) rfl (fun hc4 => ?_) (fun hc4 => ?_)
  · have h := h.1 hc4
    exact x_vret hx hb hr hlocks hP hS h d_Ce_sayLast_29
  · have h := h.2 hc4
    refine lv_aload_n hx hb d_Ce_sayLast_9 rfl (lv_at hl 0 rfl) ?_
    refine gfC_Ce_9 C hP h_a0 d_Ce_sayLast_10 ?_
    refine lv_aload_n hx hb d_Ce_sayLast_13 rfl (lv_at hl 0 rfl) ?_
    refine gfC_Ce_15 C hP h_a0 d_Ce_sayLast_14 ?_
    refine lv_iload_n hx hb d_Ce_sayLast_17 rfl (lv_at hl 1 rfl) ?_
    obtain ⟨j1, ej1, h_j1, h⟩ := h
    refine x_iast hx hb hK hΘ hP hS (49 + a0) 0 (xlt h_a0 rfl) (eC_blocks h_a0) rfl ej1 h_j1 (by decide) d_Ce_sayLast_18 (fun H locs hP hS => ?_)
    obtain ⟨I2, eI2⟩ : ∃ y, y = xu I (49 + a0) j1 p1 := ⟨_, rfl⟩
    have hP : va_P D clA (xw 52 Θ (eC Θ κ) I2 J) H := by rw [eI2]; exact hP
    have h := h I2 eI2
    refine lv_aload_n hx hb d_Ce_sayLast_19 rfl (lv_at hl 0 rfl) ?_
    refine lv_dup hx hb d_Ce_sayLast_20 rfl ?_
    refine gfC_Ce_15 C hP h_a0 d_Ce_sayLast_21 ?_
    refine lv_iconst (v := (1 : Int32)) hx hb d_Ce_sayLast_24 (by decide) ?_
    refine lv_iadd hx hb d_Ce_sayLast_25 ?_
    refine pfC_Ce_15 C hΘ hP hS h_a0 d_Ce_sayLast_26 (fun H locs hP hS => ?_)
    obtain ⟨I3, eI3⟩ : ∃ y, y = xu I2 (46 + a0) 1 ((I2 (46 + a0) 1) + (1 : Int32)) := ⟨_, rfl⟩
    have hP : va_P D clA (xw 52 Θ (eC Θ κ) I3 J) H := by rw [eI3]; exact hP
    have h := h I3 eI3
    exact x_vret hx hb hr hlocks hP hS h d_Ce_sayLast_29
set_option maxHeartbeats 4000000 in
set_option maxRecDepth 100000 in
theorem c_Ce_sayFirst (l : Launch) (D : va_G) (κ : Nat → ClassId) {Θ : Nat → Nat} (hΘ : xJ 52 Θ) (sz : Nat) (a0 : Nat) (h_a0 : a0 < 3) (p1 : Int32) (I : SI) (J : SJ) (post : SI → SJ → Prop) (h : p_Ce_sayFirst a0 p1 post I J) : Met l y_Ce_sayFirst WS rm_Ce_sayFirst (va_Pc [.ref (Θ (46 + a0)), .int p1] (xPR D clA (tysA κ) 52 Θ (eC Θ κ) sz I J)) (xQv D clA 52 Θ (eC Θ κ) sz post) 0 0 (xA 52 Θ sz) := by
  refine xMet (cc := b_Ce_sayFirst) (maxL := 3) (ret := none) (by decide) q_Ce_sayFirst.1 ?_
  intro p e s m args below meth c s₁ B hml hv
  obtain ⟨hargs, hsz, hP, hK, hN, hG⟩ := hv
  have hx := B.exec
  have hb := B.bytes
  have hr := B.returns
  have hlocks := B.notSynchronized
  have hts := atoms_spec (ws := WS) B.pre
  have hown : s.vm.findClass R_Ce = some m.cls := findClass_of_methodNamed B.named
  have C : xC p m c b_Ce_sayFirst 3 s args R_Ce D clA (tysA κ) 52 Θ sz := ⟨⟨hx, hb, hml, hown, hts⟩, hK, hN, hG, hsz⟩
  have hS : va_S (xA 52 Θ sz) s.heap s.heap [] := va_S.rf
  have hE := lg_entry_eq m [.ref (Θ (46 + a0)), .int p1] 3
  rw [← hargs] at hE
  rw [hE]
  have hl := lv_entry [.ref (Θ (46 + a0)), .int p1] (n := 3) (Nat.le_of_ble_eq_true rfl)
  generalize (lg_sl [.ref (Θ (46 + a0)), .int p1] ++ List.replicate (3 - (lg_sl [.ref (Θ (46 + a0)), .int p1]).length) Slot.unset).toArray = ls at hl ⊢
  have hl : lv_has ls 3 [(0, .ref (Θ (46 + a0))), (1, .int p1)] := hl
  unfold p_Ce_sayFirst at h
  refine lv_aload_n hx hb d_Ce_sayFirst_0 rfl (lv_at hl 0 rfl) ?_
  refine gfC_Ce_15 C hP h_a0 d_Ce_sayFirst_1 ?_
  refine lv_bipush (v := (7 : Int32)) hx hb d_Ce_sayFirst_4 (by decide) ?_
  refine x_mmin C hl.1 k_601 (Nat.le_of_ble_eq_true rfl) (Nat.le_of_ble_eq_true rfl) d_Ce_sayFirst_6 ?_
  refine lv_topi (fun x1 ex1 => ?_)
  have h := h x1 ex1
  refine lv_istore_n hx hb d_Ce_sayFirst_9 rfl hl (Nat.le_of_ble_eq_true rfl) (lv' := [(2, .int x1), (0, .ref (Θ (46 + a0))), (1, .int p1)]) rfl (fun ls hl => ?_)
  refine lv_aload_n hx hb d_Ce_sayFirst_10 rfl (lv_at hl 1 rfl) ?_
  refine gfC_Ce_9 C hP h_a0 d_Ce_sayFirst_11 ?_
  refine lv_iconst (v := (0 : Int32)) hx hb d_Ce_sayFirst_14 (by decide) ?_
  refine lv_aload_n hx hb d_Ce_sayFirst_15 rfl (lv_at hl 1 rfl) ?_
  refine gfC_Ce_9 C hP h_a0 d_Ce_sayFirst_16 ?_
  refine lv_iconst (v := (1 : Int32)) hx hb d_Ce_sayFirst_19 (by decide) ?_
  refine lv_iload_n hx hb d_Ce_sayFirst_20 rfl (lv_at hl 0 rfl) ?_
  obtain ⟨j2, j3, j4, ej2, ej3, ej4, h_j2, h_j3, h⟩ := h
  refine x_copy C hΘ hP hS (49 + a0) (xlt h_a0 rfl) (eC_blocks h_a0) rfl ej2 ej3 ej4 h_j2 h_j3 (by decide) hl.1 k_604 (Nat.le_of_ble_eq_true rfl) (Nat.le_of_ble_eq_true rfl) d_Ce_sayFirst_21 (fun H locs hP hS => ?_)
  obtain ⟨I5, eI5⟩ : ∃ y, y = xr I (49 + a0) (va_cpy (I (49 + a0)) (I (49 + a0)) j2 j3 j4) := ⟨_, rfl⟩
  have hP : va_P D clA (xw 52 Θ (eC Θ κ) I5 J) H := by rw [eI5]; exact hP
  have h := h I5 eI5
  refine lv_aload_n hx hb d_Ce_sayFirst_24 rfl (lv_at hl 1 rfl) ?_
  refine gfC_Ce_9 C hP h_a0 d_Ce_sayFirst_25 ?_
  refine lv_iconst (v := (0 : Int32)) hx hb d_Ce_sayFirst_28 (by decide) ?_
  refine lv_iload_n hx hb d_Ce_sayFirst_29 rfl (lv_at hl 2 rfl) ?_
  refine x_iast hx hb hK hΘ hP hS (49 + a0) 0 (xlt h_a0 rfl) (eC_blocks h_a0) rfl (j := 0) (by decide) (Nat.le_of_ble_eq_true rfl) (by decide) d_Ce_sayFirst_30 (fun H locs hP hS => ?_)
  obtain ⟨I6, eI6⟩ : ∃ y, y = xu I5 (49 + a0) 0 p1 := ⟨_, rfl⟩
  have hP : va_P D clA (xw 52 Θ (eC Θ κ) I6 J) H := by rw [eI6]; exact hP
  have h := h I6 eI6
  refine lv_aload_n hx hb d_Ce_sayFirst_31 rfl (lv_at hl 1 rfl) ?_
  refine lv_iload_n hx hb d_Ce_sayFirst_32 rfl (lv_at hl 0 rfl) ?_
  refine lv_iconst (v := (1 : Int32)) hx hb d_Ce_sayFirst_33 (by decide) ?_
  refine lv_iadd hx hb d_Ce_sayFirst_34 ?_
  refine pfC_Ce_15 C hΘ hP hS h_a0 d_Ce_sayFirst_35 (fun H locs hP hS => ?_)
  obtain ⟨I7, eI7⟩ : ∃ y, y = xu I6 (46 + a0) 1 (x1 + (1 : Int32)) := ⟨_, rfl⟩
  have hP : va_P D clA (xw 52 Θ (eC Θ κ) I7 J) H := by rw [eI7]; exact hP
  have h := h I7 eI7
  exact x_vret hx hb hr hlocks hP hS h d_Ce_sayFirst_38
set_option maxHeartbeats 4000000 in
set_option maxRecDepth 100000 in
theorem c_Ce_nextToSay (l : Launch) (D : va_G) (κ : Nat → ClassId) {Θ : Nat → Nat} (hΘ : xJ 52 Θ) (sz : Nat) (a0 : Nat) (h_a0 : a0 < 3) (I : SI) (J : SJ) (post : Int32 → SI → SJ → Prop) (h : p_Ce_nextToSay a0 post I J) : Met l y_Ce_nextToSay WS rm_Ce_nextToSay (va_Pc [.ref (Θ (46 + a0))] (xPR D clA (tysA κ) 52 Θ (eC Θ κ) sz I J)) (xQi D clA 52 Θ (eC Θ κ) sz post) 0 0 (xA 52 Θ sz) := by
  refine xMet (cc := b_Ce_nextToSay) (maxL := 2) (ret := (some .int)) (by decide) q_Ce_nextToSay.1 ?_
  intro p e s m args below meth c s₁ B hml hv
  obtain ⟨hargs, hsz, hP, hK, hN, hG⟩ := hv
  have hx := B.exec
  have hb := B.bytes
  have hr := B.returns
  have hlocks := B.notSynchronized
  have hts := atoms_spec (ws := WS) B.pre
  have hown : s.vm.findClass R_Ce = some m.cls := findClass_of_methodNamed B.named
  have C : xC p m c b_Ce_nextToSay 2 s args R_Ce D clA (tysA κ) 52 Θ sz := ⟨⟨hx, hb, hml, hown, hts⟩, hK, hN, hG, hsz⟩
  have hS : va_S (xA 52 Θ sz) s.heap s.heap [] := va_S.rf
  have hE := lg_entry_eq m [.ref (Θ (46 + a0))] 2
  rw [← hargs] at hE
  rw [hE]
  have hl := lv_entry [.ref (Θ (46 + a0))] (n := 2) (Nat.le_of_ble_eq_true rfl)
  generalize (lg_sl [.ref (Θ (46 + a0))] ++ List.replicate (2 - (lg_sl [.ref (Θ (46 + a0))]).length) Slot.unset).toArray = ls at hl ⊢
  have hl : lv_has ls 2 [(0, .ref (Θ (46 + a0)))] := hl
  unfold p_Ce_nextToSay at h
  refine lv_aload_n hx hb d_Ce_nextToSay_0 rfl (lv_at hl 0 rfl) ?_
  refine gfC_Ce_15 C hP h_a0 d_Ce_nextToSay_1 ?_
  refine lv_if_ne hx hb d_Ce_nextToSay_4 (tgt := 9) rfl (fun hc7 => ?_) (fun hc7 => ?_)
  · have h := h.1 hc7
    refine lv_aload_n hx hb d_Ce_nextToSay_9 rfl (lv_at hl 0 rfl) ?_
    refine gfC_Ce_9 C hP h_a0 d_Ce_nextToSay_10 ?_
    refine lv_iconst (v := (0 : Int32)) hx hb d_Ce_nextToSay_13 (by decide) ?_
    refine x_iald hx hb hK hP (49 + a0) 0 (xlt h_a0 rfl) (eC_blocks h_a0) rfl (j := 0) (by decide) (Nat.le_of_ble_eq_true rfl) (by decide) d_Ce_nextToSay_14 ?_
    refine lv_topi (fun x1 ex1 => ?_)
    have h := h x1 ex1
    refine lv_istore_n hx hb d_Ce_nextToSay_15 rfl hl (Nat.le_of_ble_eq_true rfl) (lv' := [(1, .int x1), (0, .ref (Θ (46 + a0)))]) rfl (fun ls hl => ?_)
    refine lv_aload_n hx hb d_Ce_nextToSay_16 rfl (lv_at hl 1 rfl) ?_
    refine lv_dup hx hb d_Ce_nextToSay_17 rfl ?_
    refine gfC_Ce_15 C hP h_a0 d_Ce_nextToSay_18 ?_
    refine lv_iconst (v := (1 : Int32)) hx hb d_Ce_nextToSay_21 (by decide) ?_
    refine lv_isub hx hb d_Ce_nextToSay_22 ?_
    refine pfC_Ce_15 C hΘ hP hS h_a0 d_Ce_nextToSay_23 (fun H locs hP hS => ?_)
    obtain ⟨I2, eI2⟩ : ∃ y, y = xu I (46 + a0) 1 ((I (46 + a0) 1) - (1 : Int32)) := ⟨_, rfl⟩
    have hP : va_P D clA (xw 52 Θ (eC Θ κ) I2 J) H := by rw [eI2]; exact hP
    have h := h I2 eI2
    refine lv_aload_n hx hb d_Ce_nextToSay_26 rfl (lv_at hl 1 rfl) ?_
    refine gfC_Ce_9 C hP h_a0 d_Ce_nextToSay_27 ?_
    refine lv_iconst (v := (1 : Int32)) hx hb d_Ce_nextToSay_30 (by decide) ?_
    refine lv_aload_n hx hb d_Ce_nextToSay_31 rfl (lv_at hl 1 rfl) ?_
    refine gfC_Ce_9 C hP h_a0 d_Ce_nextToSay_32 ?_
    refine lv_iconst (v := (0 : Int32)) hx hb d_Ce_nextToSay_35 (by decide) ?_
    refine lv_aload_n hx hb d_Ce_nextToSay_36 rfl (lv_at hl 1 rfl) ?_
    refine gfC_Ce_15 C hP h_a0 d_Ce_nextToSay_37 ?_
    obtain ⟨j3, j4, j5, ej3, ej4, ej5, h_j3, h_j4, h⟩ := h
    refine x_copy C hΘ hP hS (49 + a0) (xlt h_a0 rfl) (eC_blocks h_a0) rfl ej3 ej4 ej5 h_j3 h_j4 (by decide) hl.1 k_604 (Nat.le_of_ble_eq_true rfl) (Nat.le_of_ble_eq_true rfl) d_Ce_nextToSay_40 (fun H locs hP hS => ?_)
    obtain ⟨I6, eI6⟩ : ∃ y, y = xr I2 (49 + a0) (va_cpy (I2 (49 + a0)) (I2 (49 + a0)) j3 j4 j5) := ⟨_, rfl⟩
    have hP : va_P D clA (xw 52 Θ (eC Θ κ) I6 J) H := by rw [eI6]; exact hP
    have h := h I6 eI6
    refine lv_iload_n hx hb d_Ce_nextToSay_43 rfl (lv_at hl 0 rfl) ?_
    exact x_iret hx hb hr hlocks hP hS h d_Ce_nextToSay_44
  · have h := h.2 hc7
    refine lv_iconst (v := (-1 : Int32)) hx hb d_Ce_nextToSay_7 (by decide) ?_
    exact x_iret hx hb hr hlocks hP hS h d_Ce_nextToSay_8
set_option maxHeartbeats 4000000 in
set_option maxRecDepth 100000 in
theorem c_Ce_sayingAt (l : Launch) (D : va_G) (κ : Nat → ClassId) {Θ : Nat → Nat} (hΘ : xJ 52 Θ) (sz : Nat) (a0 : Nat) (h_a0 : a0 < 3) (p1 : Int32) (I : SI) (J : SJ) (post : Int32 → SI → SJ → Prop) (h : p_Ce_sayingAt a0 p1 post I J) : Met l y_Ce_sayingAt WS rm_Ce_sayingAt (va_Pc [.ref (Θ (46 + a0)), .int p1] (xPR D clA (tysA κ) 52 Θ (eC Θ κ) sz I J)) (xQi D clA 52 Θ (eC Θ κ) sz post) 0 0 (xA 52 Θ sz) := by
  refine xMet (cc := b_Ce_sayingAt) (maxL := 2) (ret := (some .int)) (by decide) q_Ce_sayingAt.1 ?_
  intro p e s m args below meth c s₁ B hml hv
  obtain ⟨hargs, hsz, hP, hK, hN, hG⟩ := hv
  have hx := B.exec
  have hb := B.bytes
  have hr := B.returns
  have hlocks := B.notSynchronized
  have hts := atoms_spec (ws := WS) B.pre
  have hown : s.vm.findClass R_Ce = some m.cls := findClass_of_methodNamed B.named
  have C : xC p m c b_Ce_sayingAt 2 s args R_Ce D clA (tysA κ) 52 Θ sz := ⟨⟨hx, hb, hml, hown, hts⟩, hK, hN, hG, hsz⟩
  have hS : va_S (xA 52 Θ sz) s.heap s.heap [] := va_S.rf
  have hE := lg_entry_eq m [.ref (Θ (46 + a0)), .int p1] 2
  rw [← hargs] at hE
  rw [hE]
  have hl := lv_entry [.ref (Θ (46 + a0)), .int p1] (n := 2) (Nat.le_of_ble_eq_true rfl)
  generalize (lg_sl [.ref (Θ (46 + a0)), .int p1] ++ List.replicate (2 - (lg_sl [.ref (Θ (46 + a0)), .int p1]).length) Slot.unset).toArray = ls at hl ⊢
  have hl : lv_has ls 2 [(0, .ref (Θ (46 + a0))), (1, .int p1)] := hl
  unfold p_Ce_sayingAt at h
  refine lv_iload_n hx hb d_Ce_sayingAt_0 rfl (lv_at hl 1 rfl) ?_
  refine lv_aload_n hx hb d_Ce_sayingAt_1 rfl (lv_at hl 0 rfl) ?_
  refine gfC_Ce_15 C hP h_a0 d_Ce_sayingAt_2 ?_
  refine x_gi (x_SN C hP hS (c_TC_isIndex l D κ hΘ sz p1 (I (46 + a0) 1) I J _ h) q_TC_isIndex k_239 nk_277 rfl rfl ⟨Nat.le_of_ble_eq_true rfl, Nat.le_of_ble_eq_true rfl⟩ rfl hl.1 rfl (Nat.le_of_ble_eq_true rfl) d_Ce_sayingAt_5) hS (fun r3 I1 J2 h H locs hP hS => ?_)
  refine lv_if_eq hx hb d_Ce_sayingAt_8 (tgt := 20) rfl (fun hc5 => ?_) (fun hc5 => ?_)
  · have h := h.1 hc5
    refine lv_iconst (v := (-1 : Int32)) hx hb d_Ce_sayingAt_20 (by decide) ?_
    exact x_iret hx hb hr hlocks hP hS h d_Ce_sayingAt_21
  · have h := h.2 hc5
    refine lv_aload_n hx hb d_Ce_sayingAt_11 rfl (lv_at hl 0 rfl) ?_
    refine gfC_Ce_9 C hP h_a0 d_Ce_sayingAt_12 ?_
    refine lv_iload_n hx hb d_Ce_sayingAt_15 rfl (lv_at hl 1 rfl) ?_
    obtain ⟨j4, ej4, h_j4, h⟩ := h
    refine x_iald hx hb hK hP (49 + a0) 0 (xlt h_a0 rfl) (eC_blocks h_a0) rfl ej4 h_j4 (by decide) d_Ce_sayingAt_16 ?_
    refine lv_goto hx hb d_Ce_sayingAt_17 (tgt := 21) rfl ?_
    exact x_iret hx hb hr hlocks hP hS h d_Ce_sayingAt_21
