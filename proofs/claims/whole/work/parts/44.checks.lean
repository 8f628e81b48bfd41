theorem d_TC_needIndex_0 : decode b_TC_needIndex 0 = .ok (.iload_n 0, 1) := by decide +kernel
theorem d_TC_needIndex_1 : decode b_TC_needIndex 1 = .ok (.iload_n 1, 1) := by decide +kernel
theorem d_TC_needIndex_2 : decode b_TC_needIndex 2 = .ok (.invokestatic 136, 3) := by decide +kernel
theorem d_TC_needIndex_5 : decode b_TC_needIndex 5 = .ok (.ifCond .ne (13), 3) := by decide +kernel
theorem d_TC_needIndex_8 : decode b_TC_needIndex 8 = .ok (.new 176, 3) := by decide +kernel
theorem d_TC_needIndex_11 : decode b_TC_needIndex 11 = .ok (.dup, 1) := by decide +kernel
theorem d_TC_needIndex_12 : decode b_TC_needIndex 12 = .ok (.ldc 178, 2) := by decide +kernel
theorem d_TC_needIndex_14 : decode b_TC_needIndex 14 = .ok (.invokespecial 180, 3) := by decide +kernel
theorem d_TC_needIndex_17 : decode b_TC_needIndex 17 = .ok (.athrow, 1) := by decide +kernel
theorem d_TC_needIndex_18 : decode b_TC_needIndex 18 = .ok (.return_, 1) := by decide +kernel
theorem d_TC_needRoomForMessage_0 : decode b_TC_needRoomForMessage 0 = .ok (.aload_n 0, 1) := by decide +kernel
theorem d_TC_needRoomForMessage_1 : decode b_TC_needRoomForMessage 1 = .ok (.getfield 61, 3) := by decide +kernel
theorem d_TC_needRoomForMessage_4 : decode b_TC_needRoomForMessage 4 = .ok (.iconst (-1), 1) := by decide +kernel
theorem d_TC_needRoomForMessage_5 : decode b_TC_needRoomForMessage 5 = .ok (.if_icmp .eq (13), 3) := by decide +kernel
theorem d_TC_needRoomForMessage_8 : decode b_TC_needRoomForMessage 8 = .ok (.aload_n 0, 1) := by decide +kernel
theorem d_TC_needRoomForMessage_9 : decode b_TC_needRoomForMessage 9 = .ok (.getfield 64, 3) := by decide +kernel
theorem d_TC_needRoomForMessage_12 : decode b_TC_needRoomForMessage 12 = .ok (.invokevirtual 181, 3) := by decide +kernel
theorem d_TC_needRoomForMessage_15 : decode b_TC_needRoomForMessage 15 = .ok (.ifCond .eq (13), 3) := by decide +kernel
theorem d_TC_needRoomForMessage_18 : decode b_TC_needRoomForMessage 18 = .ok (.new 92, 3) := by decide +kernel
theorem d_TC_needRoomForMessage_21 : decode b_TC_needRoomForMessage 21 = .ok (.dup, 1) := by decide +kernel
theorem d_TC_needRoomForMessage_22 : decode b_TC_needRoomForMessage 22 = .ok (.ldc 185, 2) := by decide +kernel
theorem d_TC_needRoomForMessage_24 : decode b_TC_needRoomForMessage 24 = .ok (.invokespecial 96, 3) := by decide +kernel
theorem d_TC_needRoomForMessage_27 : decode b_TC_needRoomForMessage 27 = .ok (.athrow, 1) := by decide +kernel
theorem d_TC_needRoomForMessage_28 : decode b_TC_needRoomForMessage 28 = .ok (.return_, 1) := by decide +kernel
def pp_TC_isIndex (p0 : Int32) (p1 : Int32) (post : Int32 → Prop) (I : SI) (J : SJ) : Prop :=
  ((p0 < (0) → post (0 : Int32)) ∧ (¬ p0 < (0) → ((p1 ≤ p0 → post (0 : Int32)) ∧ (¬ p1 ≤ p0 → post (1 : Int32)))))
abbrev rmp_TC_isIndex : Room := { frames := 0, cells := 0, slots := 0, locals := 0 }
def pp_Me_isThere (a0 : Nat) (post : Int32 → Prop) (I : SI) (J : SJ) : Prop :=
  (((I (22 + a0) 0) = (0) → post (0 : Int32)) ∧ (¬ (I (22 + a0) 0) = (0) → post (1 : Int32)))
abbrev rmp_Me_isThere : Room := { frames := 0, cells := 0, slots := 0, locals := 0 }
def pp_Mo_addDraw (a0 : Nat) (p1 : Int32) (post : Int32 → Prop) (I : SI) (J : SJ) : Prop :=
  (((I (14 + a0) 3) < (8 : Int32) → False) ∧ (¬ (I (14 + a0) 3) < (8 : Int32) → post (0 : Int32)))
abbrev rmp_Mo_addDraw : Room := { frames := 0, cells := 0, slots := 0, locals := 0 }
def pn_TC_needIndex (p0 : Int32) (p1 : Int32) (post : Prop) (exc : Nat → Prop) (I : SI) (J : SJ) : Prop :=
  pp_TC_isIndex p0 p1 (fun r1 => ((¬ r1 = (0) → post) ∧ (r1 = (0) → exc 1))) I J
abbrev rmn_TC_needIndex : Room := { frames := 6, cells := 1, slots := 6, locals := 82 }
def pn_TC_needRoomForMessage (a0 : Nat) (post : Prop) (exc : Nat → Prop) (I : SI) (J : SJ) : Prop :=
  (((I (14 + a0) 6) = (-1 : Int32) → exc 2) ∧ (¬ (I (14 + a0) 6) = (-1 : Int32) → pp_Me_isThere a0 (fun r1 => ((r1 = (0) → post) ∧ (¬ r1 = (0) → exc 2))) I J))
abbrev rmn_TC_needRoomForMessage : Room := { frames := 6, cells := 1, slots := 6, locals := 82 }
set_option maxHeartbeats 4000000 in
set_option maxRecDepth 100000 in
theorem cp_TC_isIndex (l : Launch) (D : va_G) (κ : Nat → ClassId) {Θ : Nat → Nat} (hΘ : xJ 52 Θ) (sz : Nat) (p0 : Int32) (p1 : Int32) (I : SI) (J : SJ) (post : Int32 → Prop) (h : pp_TC_isIndex p0 p1 post I J) : Met l y_TC_isIndex WS rmp_TC_isIndex (va_Pc [.int p0, .int p1] (xPR D clA (tysA κ) 52 Θ (eC Θ κ) sz I J)) (xQp post) 0 0 (fun _ => False) := by
  refine xMet (cc := b_TC_isIndex) (maxL := 2) (ret := (some .boolean)) (by decide) q_TC_isIndex.1 ?_
  intro p e s m args below meth c s₁ B hml hv
  obtain ⟨hargs, hsz, hP, hK, hN, hG⟩ := hv
  have hx := B.exec
  have hb := B.bytes
  have hr := B.returns
  have hlocks := B.notSynchronized
  have hts := atoms_spec (ws := WS) B.pre
  have hown : s.vm.findClass R_TC = some m.cls := findClass_of_methodNamed B.named
  have C : xC p m c b_TC_isIndex 2 s args R_TC D clA (tysA κ) 52 Θ sz := ⟨⟨hx, hb, hml, hown, hts⟩, hK, hN, hG, hsz⟩
  have hS : va_S (xA 52 Θ sz) s.heap s.heap [] := va_S.rf
  have hE := lg_entry_eq m [.int p0, .int p1] 2
  rw [← hargs] at hE
  rw [hE]
  have hl := lv_entry [.int p0, .int p1] (n := 2) (Nat.le_of_ble_eq_true rfl)
  generalize (lg_sl [.int p0, .int p1] ++ List.replicate (2 - (lg_sl [.int p0, .int p1]).length) Slot.unset).toArray = ls at hl ⊢
  have hl : lv_has ls 2 [(0, .int p0), (1, .int p1)] := hl
  unfold pp_TC_isIndex at h
  refine lv_iload_n hx hb d_TC_isIndex_0 rfl (lv_at hl 0 rfl) ?_
  refine lv_if_lt hx hb d_TC_isIndex_1 (tgt := 13) rfl (fun hc2 => ?_) (fun hc2 => ?_)
  · have h := h.1 hc2
    refine lv_iconst (v := (0 : Int32)) hx hb d_TC_isIndex_13 (by decide) ?_
    exact x_pzret hx hb hr hlocks (by decide) h d_TC_isIndex_14
  · have h := h.2 hc2
    refine lv_iload_n hx hb d_TC_isIndex_4 rfl (lv_at hl 0 rfl) ?_
    refine lv_iload_n hx hb d_TC_isIndex_5 rfl (lv_at hl 1 rfl) ?_
    refine lv_icmp_ge hx hb d_TC_isIndex_6 (tgt := 13) rfl (fun hc1 => ?_) (fun hc1 => ?_)
    · have h := h.1 hc1
      refine lv_iconst (v := (0 : Int32)) hx hb d_TC_isIndex_13 (by decide) ?_
      exact x_pzret hx hb hr hlocks (by decide) h d_TC_isIndex_14
    · have h := h.2 hc1
      refine lv_iconst (v := (1 : Int32)) hx hb d_TC_isIndex_9 (by decide) ?_
      refine lv_goto hx hb d_TC_isIndex_10 (tgt := 14) rfl ?_
      exact x_pzret hx hb hr hlocks (by decide) h d_TC_isIndex_14
set_option maxHeartbeats 4000000 in
set_option maxRecDepth 100000 in
theorem cp_Me_isThere (l : Launch) (D : va_G) (κ : Nat → ClassId) {Θ : Nat → Nat} (hΘ : xJ 52 Θ) (sz : Nat) (a0 : Nat) (h_a0 : a0 < 8) (I : SI) (J : SJ) (post : Int32 → Prop) (h : pp_Me_isThere a0 post I J) : Met l y_Me_isThere WS rmp_Me_isThere (va_Pc [.ref (Θ (22 + a0))] (xPR D clA (tysA κ) 52 Θ (eC Θ κ) sz I J)) (xQp post) 0 0 (fun _ => False) := by
  refine xMet (cc := b_Me_isThere) (maxL := 1) (ret := (some .boolean)) (by decide) q_Me_isThere.1 ?_
  intro p e s m args below meth c s₁ B hml hv
  obtain ⟨hargs, hsz, hP, hK, hN, hG⟩ := hv
  have hx := B.exec
  have hb := B.bytes
  have hr := B.returns
  have hlocks := B.notSynchronized
  have hts := atoms_spec (ws := WS) B.pre
  have hown : s.vm.findClass R_Me = some m.cls := findClass_of_methodNamed B.named
  have C : xC p m c b_Me_isThere 1 s args R_Me D clA (tysA κ) 52 Θ sz := ⟨⟨hx, hb, hml, hown, hts⟩, hK, hN, hG, hsz⟩
  have hS : va_S (xA 52 Θ sz) s.heap s.heap [] := va_S.rf
  have hE := lg_entry_eq m [.ref (Θ (22 + a0))] 1
  rw [← hargs] at hE
  rw [hE]
  have hl := lv_entry [.ref (Θ (22 + a0))] (n := 1) (Nat.le_of_ble_eq_true rfl)
  generalize (lg_sl [.ref (Θ (22 + a0))] ++ List.replicate (1 - (lg_sl [.ref (Θ (22 + a0))]).length) Slot.unset).toArray = ls at hl ⊢
  have hl : lv_has ls 1 [(0, .ref (Θ (22 + a0)))] := hl
  unfold pp_Me_isThere at h
  refine lv_aload_n hx hb d_Me_isThere_0 rfl (lv_at hl 0 rfl) ?_
  refine gfC_Me_7 C hP h_a0 d_Me_isThere_1 ?_
  refine lv_if_eq hx hb d_Me_isThere_4 (tgt := 11) rfl (fun hc1 => ?_) (fun hc1 => ?_)
  · have h := h.1 hc1
    refine lv_iconst (v := (0 : Int32)) hx hb d_Me_isThere_11 (by decide) ?_
    exact x_pzret hx hb hr hlocks (by decide) h d_Me_isThere_12
  · have h := h.2 hc1
    refine lv_iconst (v := (1 : Int32)) hx hb d_Me_isThere_7 (by decide) ?_
    refine lv_goto hx hb d_Me_isThere_8 (tgt := 12) rfl ?_
    exact x_pzret hx hb hr hlocks (by decide) h d_Me_isThere_12
set_option maxHeartbeats 4000000 in
set_option maxRecDepth 100000 in
theorem cp_Mo_addDraw (l : Launch) (D : va_G) (κ : Nat → ClassId) {Θ : Nat → Nat} (hΘ : xJ 52 Θ) (sz : Nat) (a0 : Nat) (h_a0 : a0 < 8) (p1 : Int32) (I : SI) (J : SJ) (post : Int32 → Prop) (h : pp_Mo_addDraw a0 p1 post I J) : Met l y_Mo_addDraw WS rmp_Mo_addDraw (va_Pc [.ref (Θ (14 + a0)), .int p1] (xPR D clA (tysA κ) 52 Θ (eC Θ κ) sz I J)) (xQp post) 0 0 (fun _ => False) := by
  refine xMet (cc := b_Mo_addDraw) (maxL := 2) (ret := (some .boolean)) (by decide) q_Mo_addDraw.1 ?_
  intro p e s m args below meth c s₁ B hml hv
  obtain ⟨hargs, hsz, hP, hK, hN, hG⟩ := hv
  have hx := B.exec
  have hb := B.bytes
  have hr := B.returns
  have hlocks := B.notSynchronized
  have hts := atoms_spec (ws := WS) B.pre
  have hown : s.vm.findClass R_Mo = some m.cls := findClass_of_methodNamed B.named
  have C : xC p m c b_Mo_addDraw 2 s args R_Mo D clA (tysA κ) 52 Θ sz := ⟨⟨hx, hb, hml, hown, hts⟩, hK, hN, hG, hsz⟩
  have hS : va_S (xA 52 Θ sz) s.heap s.heap [] := va_S.rf
  have hE := lg_entry_eq m [.ref (Θ (14 + a0)), .int p1] 2
  rw [← hargs] at hE
  rw [hE]
  have hl := lv_entry [.ref (Θ (14 + a0)), .int p1] (n := 2) (Nat.le_of_ble_eq_true rfl)
  generalize (lg_sl [.ref (Θ (14 + a0)), .int p1] ++ List.replicate (2 - (lg_sl [.ref (Θ (14 + a0)), .int p1]).length) Slot.unset).toArray = ls at hl ⊢
  have hl : lv_has ls 2 [(0, .ref (Θ (14 + a0))), (1, .int p1)] := hl
  unfold pp_Mo_addDraw at h
  refine lv_aload_n hx hb d_Mo_addDraw_0 rfl (lv_at hl 0 rfl) ?_
  refine gfC_Mo_51 C hP h_a0 d_Mo_addDraw_1 ?_
  refine lv_bipush (v := (8 : Int32)) hx hb d_Mo_addDraw_4 (by decide) ?_
  refine lv_icmp_lt hx hb d_Mo_addDraw_6 (tgt := 11) rfl (fun hc1 => ?_) (fun hc1 => ?_)
  · have h := h.1 hc1
    refine lv_aload_n hx hb d_Mo_addDraw_11 rfl (lv_at hl 0 rfl) ?_
    refine gfC_Mo_22 C hP h_a0 d_Mo_addDraw_12 ?_
    refine lv_aload_n hx hb d_Mo_addDraw_15 rfl (lv_at hl 0 rfl) ?_
    refine gfC_Mo_51 C hP h_a0 d_Mo_addDraw_16 ?_
    refine lv_iload_n hx hb d_Mo_addDraw_19 rfl (lv_at hl 1 rfl) ?_
    exact h.elim
  · have h := h.2 hc1
    refine lv_iconst (v := (0 : Int32)) hx hb d_Mo_addDraw_9 (by decide) ?_
    exact x_pzret hx hb hr hlocks (by decide) h d_Mo_addDraw_10
set_option maxHeartbeats 4000000 in
set_option maxRecDepth 100000 in
theorem cn_TC_needIndex (l : Launch) (hfl : l.flags = pinnedFlags ++ [noTraceFlag]) (D : va_G) (κ : Nat → ClassId) {Θ : Nat → Nat} (hΘ : xJ 52 Θ) (sz : Nat) (p0 : Int32) (p1 : Int32) (I : SI) (J : SJ) (post : Prop) (exc : Nat → Prop) (h : pn_TC_needIndex p0 p1 post exc I J) : MetX l y_TC_needIndex WS rmn_TC_needIndex (va_Pc [.int p0, .int p1] (xPX D clA (tysA κ) 52 Θ (eC Θ κ) sz I J)) (xQn D clA 52 Θ (eC Θ κ) I J post exc) := by
  refine xMetX (cc := b_TC_needIndex) (maxL := 2) (ret := none) (by decide) q_TC_needIndex.1 ?_
  intro p e s m args below meth c s₁ B hml hno hv
  obtain ⟨hargs, ⟨hsz, hP, hK, hN, hG⟩, hsz2, hT⟩ := hv
  have hx := B.exec
  have hb := B.bytes
  have hr := B.returns
  have hlocks := B.notSynchronized
  have hts := atoms_spec (ws := WS) B.pre
  have hown : s.vm.findClass R_TC = some m.cls := findClass_of_methodNamed B.named
  have C : xC p m c b_TC_needIndex 2 s args R_TC D clA (tysA κ) 52 Θ sz := ⟨⟨hx, hb, hml, hown, hts⟩, hK, hN, hG, hsz⟩
  have hS : va_S (xA 52 Θ sz) s.heap s.heap [] := va_S.rf
  have hE := lg_entry_eq m [.int p0, .int p1] 2
  rw [← hargs] at hE
  rw [hE]
  have hl := lv_entry [.int p0, .int p1] (n := 2) (Nat.le_of_ble_eq_true rfl)
  generalize (lg_sl [.int p0, .int p1] ++ List.replicate (2 - (lg_sl [.int p0, .int p1]).length) Slot.unset).toArray = ls at hl ⊢
  have hl : lv_has ls 2 [(0, .int p0), (1, .int p1)] := hl
  unfold pn_TC_needIndex at h
  refine lv_iload_n hx hb d_TC_needIndex_0 rfl (lv_at hl 0 rfl) ?_
  refine lv_iload_n hx hb d_TC_needIndex_1 rfl (lv_at hl 1 rfl) ?_
  refine x_gp (x_SF C hP hS (cp_TC_isIndex l D κ hΘ sz p0 p1 I J _ h) q_TC_isIndex k_239 k_238 rfl rfl ⟨Nat.le_of_ble_eq_true rfl, Nat.le_of_ble_eq_true rfl⟩ rfl hl.1 rfl (Nat.le_of_ble_eq_true rfl) d_TC_needIndex_2) (fun r1 h => ?_)
  refine lv_if_ne hx hb d_TC_needIndex_5 (tgt := 18) rfl (fun hc2 => ?_) (fun hc2 => ?_)
  · have h := h.1 hc2
    exact x_nret hx hb hr hlocks h d_TC_needIndex_18
  · have h := h.2 hc2
    exact x_throw (i1 := 178) (tx := "there is none such") hfl C hT hno hlocks 1 xOwn_1 (by decide +kernel) k_341 k_342 k_14 (by decide) hl.1 d_TC_needIndex_8 d_TC_needIndex_11 d_TC_needIndex_12 d_TC_needIndex_14 d_TC_needIndex_17 (Nat.le_of_ble_eq_true rfl) (Nat.le_of_ble_eq_true rfl) (Nat.le_of_ble_eq_true rfl) (Nat.le_of_ble_eq_true rfl) (x_qn h)
set_option maxHeartbeats 4000000 in
set_option maxRecDepth 100000 in
theorem cn_TC_needRoomForMessage (l : Launch) (hfl : l.flags = pinnedFlags ++ [noTraceFlag]) (D : va_G) (κ : Nat → ClassId) {Θ : Nat → Nat} (hΘ : xJ 52 Θ) (sz : Nat) (a0 : Nat) (h_a0 : a0 < 8) (I : SI) (J : SJ) (post : Prop) (exc : Nat → Prop) (h : pn_TC_needRoomForMessage a0 post exc I J) : MetX l y_TC_needRoomForMessage WS rmn_TC_needRoomForMessage (va_Pc [.ref (Θ (14 + a0))] (xPX D clA (tysA κ) 52 Θ (eC Θ κ) sz I J)) (xQn D clA 52 Θ (eC Θ κ) I J post exc) := by
  refine xMetX (cc := b_TC_needRoomForMessage) (maxL := 1) (ret := none) (by decide) q_TC_needRoomForMessage.1 ?_
  intro p e s m args below meth c s₁ B hml hno hv
  obtain ⟨hargs, ⟨hsz, hP, hK, hN, hG⟩, hsz2, hT⟩ := hv
  have hx := B.exec
  have hb := B.bytes
  have hr := B.returns
  have hlocks := B.notSynchronized
  have hts := atoms_spec (ws := WS) B.pre
  have hown : s.vm.findClass R_TC = some m.cls := findClass_of_methodNamed B.named
  have C : xC p m c b_TC_needRoomForMessage 1 s args R_TC D clA (tysA κ) 52 Θ sz := ⟨⟨hx, hb, hml, hown, hts⟩, hK, hN, hG, hsz⟩
  have hS : va_S (xA 52 Θ sz) s.heap s.heap [] := va_S.rf
  have hE := lg_entry_eq m [.ref (Θ (14 + a0))] 1
  rw [← hargs] at hE
  rw [hE]
  have hl := lv_entry [.ref (Θ (14 + a0))] (n := 1) (Nat.le_of_ble_eq_true rfl)
  generalize (lg_sl [.ref (Θ (14 + a0))] ++ List.replicate (1 - (lg_sl [.ref (Θ (14 + a0))]).length) Slot.unset).toArray = ls at hl ⊢
  have hl : lv_has ls 1 [(0, .ref (Θ (14 + a0)))] := hl
  unfold pn_TC_needRoomForMessage at h
  refine lv_aload_n hx hb d_TC_needRoomForMessage_0 rfl (lv_at hl 0 rfl) ?_
  refine gfC_TC_61 C hP h_a0 d_TC_needRoomForMessage_1 ?_
  refine lv_iconst (v := (-1 : Int32)) hx hb d_TC_needRoomForMessage_4 (by decide) ?_
  refine lv_icmp_eq hx hb d_TC_needRoomForMessage_5 (tgt := 18) rfl (fun hc3 => ?_) (fun hc3 => ?_)
  · have h := h.1 hc3
    exact x_throw (i1 := 185) (tx := "it is off or has a message") hfl C hT hno hlocks 2 xOwn_2 (by decide +kernel) k_461 k_462 k_15 (by decide) hl.1 d_TC_needRoomForMessage_18 d_TC_needRoomForMessage_21 d_TC_needRoomForMessage_22 d_TC_needRoomForMessage_24 d_TC_needRoomForMessage_27 (Nat.le_of_ble_eq_true rfl) (Nat.le_of_ble_eq_true rfl) (Nat.le_of_ble_eq_true rfl) (Nat.le_of_ble_eq_true rfl) (x_qn h)
  · have h := h.2 hc3
    refine lv_aload_n hx hb d_TC_needRoomForMessage_8 rfl (lv_at hl 0 rfl) ?_
    refine gfC_TC_64 C hP h_a0 d_TC_needRoomForMessage_9 ?_
    refine x_gp (x_VF C hP hS (xlt h_a0 rfl) ((eC_Me h_a0) _ _) rfl (cp_Me_isThere l D κ hΘ sz a0 h_a0 I J _ h) q_Me_isThere k_458 k_459 k_457 rfl rfl ⟨Nat.le_of_ble_eq_true rfl, Nat.le_of_ble_eq_true rfl⟩ rfl hl.1 rfl (Nat.le_of_ble_eq_true rfl) d_TC_needRoomForMessage_12) (fun r1 h => ?_)
    refine lv_if_eq hx hb d_TC_needRoomForMessage_15 (tgt := 28) rfl (fun hc2 => ?_) (fun hc2 => ?_)
    · have h := h.1 hc2
      exact x_nret hx hb hr hlocks h d_TC_needRoomForMessage_28
    · have h := h.2 hc2
      exact x_throw (i1 := 185) (tx := "it is off or has a message") hfl C hT hno hlocks 2 xOwn_2 (by decide +kernel) k_461 k_462 k_15 (by decide) hl.1 d_TC_needRoomForMessage_18 d_TC_needRoomForMessage_21 d_TC_needRoomForMessage_22 d_TC_needRoomForMessage_24 d_TC_needRoomForMessage_27 (Nat.le_of_ble_eq_true rfl) (Nat.le_of_ble_eq_true rfl) (Nat.le_of_ble_eq_true rfl) (Nat.le_of_ble_eq_true rfl) (x_qn h)
