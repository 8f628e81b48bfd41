theorem d_Bk_of_0 : decode b_Bk_of 0 = .ok (.iload_n 0, 1) := by decide +kernel
theorem d_Bk_of_1 : decode b_Bk_of 1 = .ok (.bipush (16), 2) := by decide +kernel
theorem d_Bk_of_3 : decode b_Bk_of 3 = .ok (.ishl, 1) := by decide +kernel
theorem d_Bk_of_4 : decode b_Bk_of 4 = .ok (.iload_n 1, 1) := by decide +kernel
theorem d_Bk_of_5 : decode b_Bk_of 5 = .ok (.bipush (13), 2) := by decide +kernel
theorem d_Bk_of_7 : decode b_Bk_of 7 = .ok (.ishl, 1) := by decide +kernel
theorem d_Bk_of_8 : decode b_Bk_of 8 = .ok (.ior, 1) := by decide +kernel
theorem d_Bk_of_9 : decode b_Bk_of 9 = .ok (.iload_n 2, 1) := by decide +kernel
theorem d_Bk_of_10 : decode b_Bk_of 10 = .ok (.bipush (11), 2) := by decide +kernel
theorem d_Bk_of_12 : decode b_Bk_of 12 = .ok (.ishl, 1) := by decide +kernel
theorem d_Bk_of_13 : decode b_Bk_of 13 = .ok (.ior, 1) := by decide +kernel
theorem d_Bk_of_14 : decode b_Bk_of 14 = .ok (.iload_n 3, 1) := by decide +kernel
theorem d_Bk_of_15 : decode b_Bk_of 15 = .ok (.iconst (3), 1) := by decide +kernel
theorem d_Bk_of_16 : decode b_Bk_of 16 = .ok (.iand, 1) := by decide +kernel
theorem d_Bk_of_17 : decode b_Bk_of 17 = .ok (.bipush (9), 2) := by decide +kernel
theorem d_Bk_of_19 : decode b_Bk_of 19 = .ok (.ishl, 1) := by decide +kernel
theorem d_Bk_of_20 : decode b_Bk_of 20 = .ok (.ior, 1) := by decide +kernel
theorem d_Bk_of_21 : decode b_Bk_of 21 = .ok (.iload 4, 2) := by decide +kernel
theorem d_Bk_of_23 : decode b_Bk_of 23 = .ok (.sipush (511), 3) := by decide +kernel
theorem d_Bk_of_26 : decode b_Bk_of 26 = .ok (.iand, 1) := by decide +kernel
theorem d_Bk_of_27 : decode b_Bk_of 27 = .ok (.ior, 1) := by decide +kernel
theorem d_Bk_of_28 : decode b_Bk_of 28 = .ok (.ireturn, 1) := by decide +kernel
theorem d_Bk_ofData_0 : decode b_Bk_ofData 0 = .ok (.iload_n 0, 1) := by decide +kernel
theorem d_Bk_ofData_1 : decode b_Bk_ofData 1 = .ok (.iload_n 1, 1) := by decide +kernel
theorem d_Bk_ofData_2 : decode b_Bk_ofData 2 = .ok (.iload_n 2, 1) := by decide +kernel
theorem d_Bk_ofData_3 : decode b_Bk_ofData 3 = .ok (.iconst (2), 1) := by decide +kernel
theorem d_Bk_ofData_4 : decode b_Bk_ofData 4 = .ok (.iushr, 1) := by decide +kernel
theorem d_Bk_ofData_5 : decode b_Bk_ofData 5 = .ok (.iload_n 2, 1) := by decide +kernel
theorem d_Bk_ofData_6 : decode b_Bk_ofData 6 = .ok (.iload_n 3, 1) := by decide +kernel
theorem d_Bk_ofData_7 : decode b_Bk_ofData 7 = .ok (.invokestatic 9, 3) := by decide +kernel
theorem d_Bk_ofData_10 : decode b_Bk_ofData 10 = .ok (.ireturn, 1) := by decide +kernel
theorem d_Bk_kindOf_0 : decode b_Bk_kindOf 0 = .ok (.iload_n 0, 1) := by decide +kernel
theorem d_Bk_kindOf_1 : decode b_Bk_kindOf 1 = .ok (.bipush (16), 2) := by decide +kernel
theorem d_Bk_kindOf_3 : decode b_Bk_kindOf 3 = .ok (.iushr, 1) := by decide +kernel
theorem d_Bk_kindOf_4 : decode b_Bk_kindOf 4 = .ok (.bipush (15), 2) := by decide +kernel
theorem d_Bk_kindOf_6 : decode b_Bk_kindOf 6 = .ok (.iand, 1) := by decide +kernel
theorem d_Bk_kindOf_7 : decode b_Bk_kindOf 7 = .ok (.ireturn, 1) := by decide +kernel
theorem d_Bk_mobileOf_0 : decode b_Bk_mobileOf 0 = .ok (.iload_n 0, 1) := by decide +kernel
theorem d_Bk_mobileOf_1 : decode b_Bk_mobileOf 1 = .ok (.bipush (13), 2) := by decide +kernel
theorem d_Bk_mobileOf_3 : decode b_Bk_mobileOf 3 = .ok (.iushr, 1) := by decide +kernel
theorem d_Bk_mobileOf_4 : decode b_Bk_mobileOf 4 = .ok (.bipush (7), 2) := by decide +kernel
theorem d_Bk_mobileOf_6 : decode b_Bk_mobileOf 6 = .ok (.iand, 1) := by decide +kernel
theorem d_Bk_mobileOf_7 : decode b_Bk_mobileOf 7 = .ok (.ireturn, 1) := by decide +kernel
theorem d_Bk_groupOf_0 : decode b_Bk_groupOf 0 = .ok (.iload_n 0, 1) := by decide +kernel
theorem d_Bk_groupOf_1 : decode b_Bk_groupOf 1 = .ok (.bipush (11), 2) := by decide +kernel
theorem d_Bk_groupOf_3 : decode b_Bk_groupOf 3 = .ok (.iushr, 1) := by decide +kernel
theorem d_Bk_groupOf_4 : decode b_Bk_groupOf 4 = .ok (.iconst (3), 1) := by decide +kernel
theorem d_Bk_groupOf_5 : decode b_Bk_groupOf 5 = .ok (.iand, 1) := by decide +kernel
theorem d_Bk_groupOf_6 : decode b_Bk_groupOf 6 = .ok (.ireturn, 1) := by decide +kernel
theorem d_Bk_levelOf_0 : decode b_Bk_levelOf 0 = .ok (.iload_n 0, 1) := by decide +kernel
theorem d_Bk_levelOf_1 : decode b_Bk_levelOf 1 = .ok (.bipush (9), 2) := by decide +kernel
theorem d_Bk_levelOf_3 : decode b_Bk_levelOf 3 = .ok (.iushr, 1) := by decide +kernel
theorem d_Bk_levelOf_4 : decode b_Bk_levelOf 4 = .ok (.iconst (3), 1) := by decide +kernel
theorem d_Bk_levelOf_5 : decode b_Bk_levelOf 5 = .ok (.iand, 1) := by decide +kernel
theorem d_Bk_levelOf_6 : decode b_Bk_levelOf 6 = .ok (.ireturn, 1) := by decide +kernel
theorem d_Bk_otherOf_0 : decode b_Bk_otherOf 0 = .ok (.iload_n 0, 1) := by decide +kernel
theorem d_Bk_otherOf_1 : decode b_Bk_otherOf 1 = .ok (.bipush (9), 2) := by decide +kernel
theorem d_Bk_otherOf_3 : decode b_Bk_otherOf 3 = .ok (.iushr, 1) := by decide +kernel
theorem d_Bk_otherOf_4 : decode b_Bk_otherOf 4 = .ok (.bipush (15), 2) := by decide +kernel
theorem d_Bk_otherOf_6 : decode b_Bk_otherOf 6 = .ok (.iand, 1) := by decide +kernel
theorem d_Bk_otherOf_7 : decode b_Bk_otherOf 7 = .ok (.ireturn, 1) := by decide +kernel
theorem d_Bk_restOf_0 : decode b_Bk_restOf 0 = .ok (.iload_n 0, 1) := by decide +kernel
theorem d_Bk_restOf_1 : decode b_Bk_restOf 1 = .ok (.sipush (511), 3) := by decide +kernel
theorem d_Bk_restOf_4 : decode b_Bk_restOf 4 = .ok (.iand, 1) := by decide +kernel
theorem d_Bk_restOf_5 : decode b_Bk_restOf 5 = .ok (.ireturn, 1) := by decide +kernel
theorem d_Bk_isFromMobile_0 : decode b_Bk_isFromMobile 0 = .ok (.iload_n 0, 1) := by decide +kernel
theorem d_Bk_isFromMobile_1 : decode b_Bk_isFromMobile 1 = .ok (.invokestatic 13, 3) := by decide +kernel
theorem d_Bk_isFromMobile_4 : decode b_Bk_isFromMobile 4 = .ok (.iconst (1), 1) := by decide +kernel
theorem d_Bk_isFromMobile_5 : decode b_Bk_isFromMobile 5 = .ok (.if_icmp .lt (15), 3) := by decide +kernel
theorem d_Bk_isFromMobile_8 : decode b_Bk_isFromMobile 8 = .ok (.iload_n 0, 1) := by decide +kernel
theorem d_Bk_isFromMobile_9 : decode b_Bk_isFromMobile 9 = .ok (.invokestatic 13, 3) := by decide +kernel
theorem d_Bk_isFromMobile_12 : decode b_Bk_isFromMobile 12 = .ok (.iconst (3), 1) := by decide +kernel
theorem d_Bk_isFromMobile_13 : decode b_Bk_isFromMobile 13 = .ok (.if_icmp .gt (7), 3) := by decide +kernel
theorem d_Bk_isFromMobile_16 : decode b_Bk_isFromMobile 16 = .ok (.iconst (1), 1) := by decide +kernel
theorem d_Bk_isFromMobile_17 : decode b_Bk_isFromMobile 17 = .ok (.goto (4), 3) := by decide +kernel
theorem d_Bk_isFromMobile_20 : decode b_Bk_isFromMobile 20 = .ok (.iconst (0), 1) := by decide +kernel
theorem d_Bk_isFromMobile_21 : decode b_Bk_isFromMobile 21 = .ok (.ireturn, 1) := by decide +kernel
def p_Bk_of (p0 : Int32) (p1 : Int32) (p2 : Int32) (p3 : Int32) (p4 : Int32) (post : Int32 → SI → SJ → Prop) (I : SI) (J : SJ) : Prop :=
  post (((((xsl p0 (16 : Int32)) ||| (xsl p1 (13 : Int32))) ||| (xsl p2 (11 : Int32))) ||| (xsl (p3 &&& (3 : Int32)) (9 : Int32))) ||| (p4 &&& (511 : Int32))) I J
abbrev rm_Bk_of : Room := { frames := 0, cells := 0, slots := 0, locals := 0 }
def p_Bk_ofData (p0 : Int32) (p1 : Int32) (p2 : Int32) (p3 : Int32) (post : Int32 → SI → SJ → Prop) (I : SI) (J : SJ) : Prop :=
  p_Bk_of p0 p1 (xsu p2 (2 : Int32)) p2 p3 (fun r3 I1 J2 => post r3 I1 J2) I J
abbrev rm_Bk_ofData : Room := { frames := 1, cells := 0, slots := 0, locals := 24 }
def p_Bk_kindOf (p0 : Int32) (post : Int32 → SI → SJ → Prop) (I : SI) (J : SJ) : Prop :=
  post ((xsu p0 (16 : Int32)) &&& (15 : Int32)) I J
abbrev rm_Bk_kindOf : Room := { frames := 0, cells := 0, slots := 0, locals := 0 }
def p_Bk_mobileOf (p0 : Int32) (post : Int32 → SI → SJ → Prop) (I : SI) (J : SJ) : Prop :=
  post ((xsu p0 (13 : Int32)) &&& (7 : Int32)) I J
abbrev rm_Bk_mobileOf : Room := { frames := 0, cells := 0, slots := 0, locals := 0 }
def p_Bk_groupOf (p0 : Int32) (post : Int32 → SI → SJ → Prop) (I : SI) (J : SJ) : Prop :=
  post ((xsu p0 (11 : Int32)) &&& (3 : Int32)) I J
abbrev rm_Bk_groupOf : Room := { frames := 0, cells := 0, slots := 0, locals := 0 }
def p_Bk_levelOf (p0 : Int32) (post : Int32 → SI → SJ → Prop) (I : SI) (J : SJ) : Prop :=
  post ((xsu p0 (9 : Int32)) &&& (3 : Int32)) I J
abbrev rm_Bk_levelOf : Room := { frames := 0, cells := 0, slots := 0, locals := 0 }
def p_Bk_otherOf (p0 : Int32) (post : Int32 → SI → SJ → Prop) (I : SI) (J : SJ) : Prop :=
  post ((xsu p0 (9 : Int32)) &&& (15 : Int32)) I J
abbrev rm_Bk_otherOf : Room := { frames := 0, cells := 0, slots := 0, locals := 0 }
def p_Bk_restOf (p0 : Int32) (post : Int32 → SI → SJ → Prop) (I : SI) (J : SJ) : Prop :=
  post (p0 &&& (511 : Int32)) I J
abbrev rm_Bk_restOf : Room := { frames := 0, cells := 0, slots := 0, locals := 0 }
def p_Bk_isFromMobile_20 (p0 : Int32) (post : Int32 → SI → SJ → Prop) (I : SI) (J : SJ) : Prop :=
  post (0 : Int32) I J
def p_Bk_isFromMobile (p0 : Int32) (post : Int32 → SI → SJ → Prop) (I : SI) (J : SJ) : Prop :=
  p_Bk_kindOf p0 (fun r3 I1 J2 => ((r3 < (1 : Int32) → p_Bk_isFromMobile_20 p0 post I1 J2) ∧ (¬ r3 < (1 : Int32) → p_Bk_kindOf p0 (fun r6 I4 J5 => (((3 : Int32) < r6 → p_Bk_isFromMobile_20 p0 post I4 J5) ∧ (¬ (3 : Int32) < r6 → post (1 : Int32) I4 J5))) I1 J2))) I J
abbrev rm_Bk_isFromMobile : Room := { frames := 1, cells := 0, slots := 0, locals := 20 }
set_option maxHeartbeats 4000000 in
set_option maxRecDepth 100000 in
theorem c_Bk_of (l : Launch) (D : va_G) (κ : Nat → ClassId) {Θ : Nat → Nat} (hΘ : xJ 52 Θ) (sz : Nat) (p0 : Int32) (p1 : Int32) (p2 : Int32) (p3 : Int32) (p4 : Int32) (I : SI) (J : SJ) (post : Int32 → SI → SJ → Prop) (h : p_Bk_of p0 p1 p2 p3 p4 post I J) : Met l y_Bk_of WS rm_Bk_of (va_Pc [.int p0, .int p1, .int p2, .int p3, .int p4] (xPR D clA (tysA κ) 52 Θ (eC Θ κ) sz I J)) (xQi D clA 52 Θ (eC Θ κ) sz post) 0 0 (xA 52 Θ sz) := by
  refine xMet (cc := b_Bk_of) (maxL := 5) (ret := (some .int)) (by decide) q_Bk_of.1 ?_
  intro p e s m args below meth c s₁ B hml hv
  obtain ⟨hargs, hsz, hP, hK, hN, hG⟩ := hv
  have hx := B.exec
  have hb := B.bytes
  have hr := B.returns
  have hlocks := B.notSynchronized
  have hts := atoms_spec (ws := WS) B.pre
  have hown : s.vm.findClass R_Bk = some m.cls := findClass_of_methodNamed B.named
  have C : xC p m c b_Bk_of 5 s args R_Bk D clA (tysA κ) 52 Θ sz := ⟨⟨hx, hb, hml, hown, hts⟩, hK, hN, hG, hsz⟩
  have hS : va_S (xA 52 Θ sz) s.heap s.heap [] := va_S.rf
  have hE := lg_entry_eq m [.int p0, .int p1, .int p2, .int p3, .int p4] 5
  rw [← hargs] at hE
  rw [hE]
  have hl := lv_entry [.int p0, .int p1, .int p2, .int p3, .int p4] (n := 5) (Nat.le_of_ble_eq_true rfl)
  generalize (lg_sl [.int p0, .int p1, .int p2, .int p3, .int p4] ++ List.replicate (5 - (lg_sl [.int p0, .int p1, .int p2, .int p3, .int p4]).length) Slot.unset).toArray = ls at hl ⊢
  have hl : lv_has ls 5 [(0, .int p0), (1, .int p1), (2, .int p2), (3, .int p3), (4, .int p4)] := hl
  unfold p_Bk_of at h
  refine lv_iload_n hx hb d_Bk_of_0 rfl (lv_at hl 0 rfl) ?_
  refine lv_bipush (v := (16 : Int32)) hx hb d_Bk_of_1 (by decide) ?_
  refine lv_ishl hx hb d_Bk_of_3 ?_
  refine lv_iload_n hx hb d_Bk_of_4 rfl (lv_at hl 1 rfl) ?_
  refine lv_bipush (v := (13 : Int32)) hx hb d_Bk_of_5 (by decide) ?_
  refine lv_ishl hx hb d_Bk_of_7 ?_
  refine lv_ior hx hb d_Bk_of_8 ?_
  refine lv_iload_n hx hb d_Bk_of_9 rfl (lv_at hl 2 rfl) ?_
  refine lv_bipush (v := (11 : Int32)) hx hb d_Bk_of_10 (by decide) ?_
  refine lv_ishl hx hb d_Bk_of_12 ?_
  refine lv_ior hx hb d_Bk_of_13 ?_
  refine lv_iload_n hx hb d_Bk_of_14 rfl (lv_at hl 3 rfl) ?_
  refine lv_iconst (v := (3 : Int32)) hx hb d_Bk_of_15 (by decide) ?_
  refine lv_iand hx hb d_Bk_of_16 ?_
  refine lv_bipush (v := (9 : Int32)) hx hb d_Bk_of_17 (by decide) ?_
  refine lv_ishl hx hb d_Bk_of_19 ?_
  refine lv_ior hx hb d_Bk_of_20 ?_
  refine lv_iload hx hb d_Bk_of_21 (lv_at hl 4 rfl) ?_
  refine lv_sipush (v := (511 : Int32)) hx hb d_Bk_of_23 (by decide) ?_
  refine lv_iand hx hb d_Bk_of_26 ?_
  refine lv_ior hx hb d_Bk_of_27 ?_
  exact x_iret hx hb hr hlocks hP hS h d_Bk_of_28
set_option maxHeartbeats 4000000 in
set_option maxRecDepth 100000 in
theorem c_Bk_ofData (l : Launch) (D : va_G) (κ : Nat → ClassId) {Θ : Nat → Nat} (hΘ : xJ 52 Θ) (sz : Nat) (p0 : Int32) (p1 : Int32) (p2 : Int32) (p3 : Int32) (I : SI) (J : SJ) (post : Int32 → SI → SJ → Prop) (h : p_Bk_ofData p0 p1 p2 p3 post I J) : Met l y_Bk_ofData WS rm_Bk_ofData (va_Pc [.int p0, .int p1, .int p2, .int p3] (xPR D clA (tysA κ) 52 Θ (eC Θ κ) sz I J)) (xQi D clA 52 Θ (eC Θ κ) sz post) 0 0 (xA 52 Θ sz) := by
  refine xMet (cc := b_Bk_ofData) (maxL := 4) (ret := (some .int)) (by decide) q_Bk_ofData.1 ?_
  intro p e s m args below meth c s₁ B hml hv
  obtain ⟨hargs, hsz, hP, hK, hN, hG⟩ := hv
  have hx := B.exec
  have hb := B.bytes
  have hr := B.returns
  have hlocks := B.notSynchronized
  have hts := atoms_spec (ws := WS) B.pre
  have hown : s.vm.findClass R_Bk = some m.cls := findClass_of_methodNamed B.named
  have C : xC p m c b_Bk_ofData 4 s args R_Bk D clA (tysA κ) 52 Θ sz := ⟨⟨hx, hb, hml, hown, hts⟩, hK, hN, hG, hsz⟩
  have hS : va_S (xA 52 Θ sz) s.heap s.heap [] := va_S.rf
  have hE := lg_entry_eq m [.int p0, .int p1, .int p2, .int p3] 4
  rw [← hargs] at hE
  rw [hE]
  have hl := lv_entry [.int p0, .int p1, .int p2, .int p3] (n := 4) (Nat.le_of_ble_eq_true rfl)
  generalize (lg_sl [.int p0, .int p1, .int p2, .int p3] ++ List.replicate (4 - (lg_sl [.int p0, .int p1, .int p2, .int p3]).length) Slot.unset).toArray = ls at hl ⊢
  have hl : lv_has ls 4 [(0, .int p0), (1, .int p1), (2, .int p2), (3, .int p3)] := hl
  unfold p_Bk_ofData at h
  refine lv_iload_n hx hb d_Bk_ofData_0 rfl (lv_at hl 0 rfl) ?_
  refine lv_iload_n hx hb d_Bk_ofData_1 rfl (lv_at hl 1 rfl) ?_
  refine lv_iload_n hx hb d_Bk_ofData_2 rfl (lv_at hl 2 rfl) ?_
  refine lv_iconst (v := (2 : Int32)) hx hb d_Bk_ofData_3 (by decide) ?_
  refine lv_iushr (v := xsu p2 (2 : Int32)) hx hb d_Bk_ofData_4 rfl ?_
  refine lv_iload_n hx hb d_Bk_ofData_5 rfl (lv_at hl 2 rfl) ?_
  refine lv_iload_n hx hb d_Bk_ofData_6 rfl (lv_at hl 3 rfl) ?_
  refine x_gi (x_S C hP hS (c_Bk_of l D κ hΘ sz p0 p1 (xsu p2 (2 : Int32)) p2 p3 I J _ h) q_Bk_of k_478 k_507 rfl rfl ⟨Nat.le_of_ble_eq_true rfl, Nat.le_of_ble_eq_true rfl⟩ rfl hl.1 rfl (Nat.le_of_ble_eq_true rfl) d_Bk_ofData_7) hS (fun r3 I1 J2 h H locs hP hS => ?_)
  exact x_iret hx hb hr hlocks hP hS h d_Bk_ofData_10
set_option maxHeartbeats 4000000 in
set_option maxRecDepth 100000 in
theorem c_Bk_kindOf (l : Launch) (D : va_G) (κ : Nat → ClassId) {Θ : Nat → Nat} (hΘ : xJ 52 Θ) (sz : Nat) (p0 : Int32) (I : SI) (J : SJ) (post : Int32 → SI → SJ → Prop) (h : p_Bk_kindOf p0 post I J) : Met l y_Bk_kindOf WS rm_Bk_kindOf (va_Pc [.int p0] (xPR D clA (tysA κ) 52 Θ (eC Θ κ) sz I J)) (xQi D clA 52 Θ (eC Θ κ) sz post) 0 0 (xA 52 Θ sz) := by
  refine xMet (cc := b_Bk_kindOf) (maxL := 1) (ret := (some .int)) (by decide) q_Bk_kindOf.1 ?_
  intro p e s m args below meth c s₁ B hml hv
  obtain ⟨hargs, hsz, hP, hK, hN, hG⟩ := hv
  have hx := B.exec
  have hb := B.bytes
  have hr := B.returns
  have hlocks := B.notSynchronized
  have hts := atoms_spec (ws := WS) B.pre
  have hown : s.vm.findClass R_Bk = some m.cls := findClass_of_methodNamed B.named
  have C : xC p m c b_Bk_kindOf 1 s args R_Bk D clA (tysA κ) 52 Θ sz := ⟨⟨hx, hb, hml, hown, hts⟩, hK, hN, hG, hsz⟩
  have hS : va_S (xA 52 Θ sz) s.heap s.heap [] := va_S.rf
  have hE := lg_entry_eq m [.int p0] 1
  rw [← hargs] at hE
  rw [hE]
  have hl := lv_entry [.int p0] (n := 1) (Nat.le_of_ble_eq_true rfl)
  generalize (lg_sl [.int p0] ++ List.replicate (1 - (lg_sl [.int p0]).length) Slot.unset).toArray = ls at hl ⊢
  have hl : lv_has ls 1 [(0, .int p0)] := hl
  unfold p_Bk_kindOf at h
  refine lv_iload_n hx hb d_Bk_kindOf_0 rfl (lv_at hl 0 rfl) ?_
  refine lv_bipush (v := (16 : Int32)) hx hb d_Bk_kindOf_1 (by decide) ?_
  refine lv_iushr (v := xsu p0 (16 : Int32)) hx hb d_Bk_kindOf_3 rfl ?_
  refine lv_bipush (v := (15 : Int32)) hx hb d_Bk_kindOf_4 (by decide) ?_
  refine lv_iand hx hb d_Bk_kindOf_6 ?_
  exact x_iret hx hb hr hlocks hP hS h d_Bk_kindOf_7
set_option maxHeartbeats 4000000 in
set_option maxRecDepth 100000 in
theorem c_Bk_mobileOf (l : Launch) (D : va_G) (κ : Nat → ClassId) {Θ : Nat → Nat} (hΘ : xJ 52 Θ) (sz : Nat) (p0 : Int32) (I : SI) (J : SJ) (post : Int32 → SI → SJ → Prop) (h : p_Bk_mobileOf p0 post I J) : Met l y_Bk_mobileOf WS rm_Bk_mobileOf (va_Pc [.int p0] (xPR D clA (tysA κ) 52 Θ (eC Θ κ) sz I J)) (xQi D clA 52 Θ (eC Θ κ) sz post) 0 0 (xA 52 Θ sz) := by
  refine xMet (cc := b_Bk_mobileOf) (maxL := 1) (ret := (some .int)) (by decide) q_Bk_mobileOf.1 ?_
  intro p e s m args below meth c s₁ B hml hv
  obtain ⟨hargs, hsz, hP, hK, hN, hG⟩ := hv
  have hx := B.exec
  have hb := B.bytes
  have hr := B.returns
  have hlocks := B.notSynchronized
  have hts := atoms_spec (ws := WS) B.pre
  have hown : s.vm.findClass R_Bk = some m.cls := findClass_of_methodNamed B.named
  have C : xC p m c b_Bk_mobileOf 1 s args R_Bk D clA (tysA κ) 52 Θ sz := ⟨⟨hx, hb, hml, hown, hts⟩, hK, hN, hG, hsz⟩
  have hS : va_S (xA 52 Θ sz) s.heap s.heap [] := va_S.rf
  have hE := lg_entry_eq m [.int p0] 1
  rw [← hargs] at hE
  rw [hE]
  have hl := lv_entry [.int p0] (n := 1) (Nat.le_of_ble_eq_true rfl)
  generalize (lg_sl [.int p0] ++ List.replicate (1 - (lg_sl [.int p0]).length) Slot.unset).toArray = ls at hl ⊢
  have hl : lv_has ls 1 [(0, .int p0)] := hl
  unfold p_Bk_mobileOf at h
  refine lv_iload_n hx hb d_Bk_mobileOf_0 rfl (lv_at hl 0 rfl) ?_
  refine lv_bipush (v := (13 : Int32)) hx hb d_Bk_mobileOf_1 (by decide) ?_
  refine lv_iushr (v := xsu p0 (13 : Int32)) hx hb d_Bk_mobileOf_3 rfl ?_
  refine lv_bipush (v := (7 : Int32)) hx hb d_Bk_mobileOf_4 (by decide) ?_
  refine lv_iand hx hb d_Bk_mobileOf_6 ?_
  exact x_iret hx hb hr hlocks hP hS h d_Bk_mobileOf_7
set_option maxHeartbeats 4000000 in
set_option maxRecDepth 100000 in
theorem c_Bk_groupOf (l : Launch) (D : va_G) (κ : Nat → ClassId) {Θ : Nat → Nat} (hΘ : xJ 52 Θ) (sz : Nat) (p0 : Int32) (I : SI) (J : SJ) (post : Int32 → SI → SJ → Prop) (h : p_Bk_groupOf p0 post I J) : Met l y_Bk_groupOf WS rm_Bk_groupOf (va_Pc [.int p0] (xPR D clA (tysA κ) 52 Θ (eC Θ κ) sz I J)) (xQi D clA 52 Θ (eC Θ κ) sz post) 0 0 (xA 52 Θ sz) := by
  refine xMet (cc := b_Bk_groupOf) (maxL := 1) (ret := (some .int)) (by decide) q_Bk_groupOf.1 ?_
  intro p e s m args below meth c s₁ B hml hv
  obtain ⟨hargs, hsz, hP, hK, hN, hG⟩ := hv
  have hx := B.exec
  have hb := B.bytes
  have hr := B.returns
  have hlocks := B.notSynchronized
  have hts := atoms_spec (ws := WS) B.pre
  have hown : s.vm.findClass R_Bk = some m.cls := findClass_of_methodNamed B.named
  have C : xC p m c b_Bk_groupOf 1 s args R_Bk D clA (tysA κ) 52 Θ sz := ⟨⟨hx, hb, hml, hown, hts⟩, hK, hN, hG, hsz⟩
  have hS : va_S (xA 52 Θ sz) s.heap s.heap [] := va_S.rf
  have hE := lg_entry_eq m [.int p0] 1
  rw [← hargs] at hE
  rw [hE]
  have hl := lv_entry [.int p0] (n := 1) (Nat.le_of_ble_eq_true rfl)
  generalize (lg_sl [.int p0] ++ List.replicate (1 - (lg_sl [.int p0]).length) Slot.unset).toArray = ls at hl ⊢
  have hl : lv_has ls 1 [(0, .int p0)] := hl
  unfold p_Bk_groupOf at h
  refine lv_iload_n hx hb d_Bk_groupOf_0 rfl (lv_at hl 0 rfl) ?_
  refine lv_bipush (v := (11 : Int32)) hx hb d_Bk_groupOf_1 (by decide) ?_
  refine lv_iushr (v := xsu p0 (11 : Int32)) hx hb d_Bk_groupOf_3 rfl ?_
  refine lv_iconst (v := (3 : Int32)) hx hb d_Bk_groupOf_4 (by decide) ?_
  refine lv_iand hx hb d_Bk_groupOf_5 ?_
  exact x_iret hx hb hr hlocks hP hS h d_Bk_groupOf_6
set_option maxHeartbeats 4000000 in
set_option maxRecDepth 100000 in
theorem c_Bk_levelOf (l : Launch) (D : va_G) (κ : Nat → ClassId) {Θ : Nat → Nat} (hΘ : xJ 52 Θ) (sz : Nat) (p0 : Int32) (I : SI) (J : SJ) (post : Int32 → SI → SJ → Prop) (h : p_Bk_levelOf p0 post I J) : Met l y_Bk_levelOf WS rm_Bk_levelOf (va_Pc [.int p0] (xPR D clA (tysA κ) 52 Θ (eC Θ κ) sz I J)) (xQi D clA 52 Θ (eC Θ κ) sz post) 0 0 (xA 52 Θ sz) := by
  refine xMet (cc := b_Bk_levelOf) (maxL := 1) (ret := (some .int)) (by decide) q_Bk_levelOf.1 ?_
  intro p e s m args below meth c s₁ B hml hv
  obtain ⟨hargs, hsz, hP, hK, hN, hG⟩ := hv
  have hx := B.exec
  have hb := B.bytes
  have hr := B.returns
  have hlocks := B.notSynchronized
  have hts := atoms_spec (ws := WS) B.pre
  have hown : s.vm.findClass R_Bk = some m.cls := findClass_of_methodNamed B.named
  have C : xC p m c b_Bk_levelOf 1 s args R_Bk D clA (tysA κ) 52 Θ sz := ⟨⟨hx, hb, hml, hown, hts⟩, hK, hN, hG, hsz⟩
  have hS : va_S (xA 52 Θ sz) s.heap s.heap [] := va_S.rf
  have hE := lg_entry_eq m [.int p0] 1
  rw [← hargs] at hE
  rw [hE]
  have hl := lv_entry [.int p0] (n := 1) (Nat.le_of_ble_eq_true rfl)
  generalize (lg_sl [.int p0] ++ List.replicate (1 - (lg_sl [.int p0]).length) Slot.unset).toArray = ls at hl ⊢
  have hl : lv_has ls 1 [(0, .int p0)] := hl
  unfold p_Bk_levelOf at h
  refine lv_iload_n hx hb d_Bk_levelOf_0 rfl (lv_at hl 0 rfl) ?_
  refine lv_bipush (v := (9 : Int32)) hx hb d_Bk_levelOf_1 (by decide) ?_
  refine lv_iushr (v := xsu p0 (9 : Int32)) hx hb d_Bk_levelOf_3 rfl ?_
  refine lv_iconst (v := (3 : Int32)) hx hb d_Bk_levelOf_4 (by decide) ?_
  refine lv_iand hx hb d_Bk_levelOf_5 ?_
  exact x_iret hx hb hr hlocks hP hS h d_Bk_levelOf_6
set_option maxHeartbeats 4000000 in
set_option maxRecDepth 100000 in
theorem c_Bk_otherOf (l : Launch) (D : va_G) (κ : Nat → ClassId) {Θ : Nat → Nat} (hΘ : xJ 52 Θ) (sz : Nat) (p0 : Int32) (I : SI) (J : SJ) (post : Int32 → SI → SJ → Prop) (h : p_Bk_otherOf p0 post I J) : Met l y_Bk_otherOf WS rm_Bk_otherOf (va_Pc [.int p0] (xPR D clA (tysA κ) 52 Θ (eC Θ κ) sz I J)) (xQi D clA 52 Θ (eC Θ κ) sz post) 0 0 (xA 52 Θ sz) := by
  refine xMet (cc := b_Bk_otherOf) (maxL := 1) (ret := (some .int)) (by decide) q_Bk_otherOf.1 ?_
  intro p e s m args below meth c s₁ B hml hv
  obtain ⟨hargs, hsz, hP, hK, hN, hG⟩ := hv
  have hx := B.exec
  have hb := B.bytes
  have hr := B.returns
  have hlocks := B.notSynchronized
  have hts := atoms_spec (ws := WS) B.pre
  have hown : s.vm.findClass R_Bk = some m.cls := findClass_of_methodNamed B.named
  have C : xC p m c b_Bk_otherOf 1 s args R_Bk D clA (tysA κ) 52 Θ sz := ⟨⟨hx, hb, hml, hown, hts⟩, hK, hN, hG, hsz⟩
  have hS : va_S (xA 52 Θ sz) s.heap s.heap [] := va_S.rf
  have hE := lg_entry_eq m [.int p0] 1
  rw [← hargs] at hE
  rw [hE]
  have hl := lv_entry [.int p0] (n := 1) (Nat.le_of_ble_eq_true rfl)
  generalize (lg_sl [.int p0] ++ List.replicate (1 - (lg_sl [.int p0]).length) Slot.unset).toArray = ls at hl ⊢
  have hl : lv_has ls 1 [(0, .int p0)] := hl
  unfold p_Bk_otherOf at h
  refine lv_iload_n hx hb d_Bk_otherOf_0 rfl (lv_at hl 0 rfl) ?_
  refine lv_bipush (v := (9 : Int32)) hx hb d_Bk_otherOf_1 (by decide) ?_
  refine lv_iushr (v := xsu p0 (9 : Int32)) hx hb d_Bk_otherOf_3 rfl ?_
  refine lv_bipush (v := (15 : Int32)) hx hb d_Bk_otherOf_4 (by decide) ?_
  refine lv_iand hx hb d_Bk_otherOf_6 ?_
  exact x_iret hx hb hr hlocks hP hS h d_Bk_otherOf_7
set_option maxHeartbeats 4000000 in
set_option maxRecDepth 100000 in
theorem c_Bk_restOf (l : Launch) (D : va_G) (κ : Nat → ClassId) {Θ : Nat → Nat} (hΘ : xJ 52 Θ) (sz : Nat) (p0 : Int32) (I : SI) (J : SJ) (post : Int32 → SI → SJ → Prop) (h : p_Bk_restOf p0 post I J) : Met l y_Bk_restOf WS rm_Bk_restOf (va_Pc [.int p0] (xPR D clA (tysA κ) 52 Θ (eC Θ κ) sz I J)) (xQi D clA 52 Θ (eC Θ κ) sz post) 0 0 (xA 52 Θ sz) := by
  refine xMet (cc := b_Bk_restOf) (maxL := 1) (ret := (some .int)) (by decide) q_Bk_restOf.1 ?_
  intro p e s m args below meth c s₁ B hml hv
  obtain ⟨hargs, hsz, hP, hK, hN, hG⟩ := hv
  have hx := B.exec
  have hb := B.bytes
  have hr := B.returns
  have hlocks := B.notSynchronized
  have hts := atoms_spec (ws := WS) B.pre
  have hown : s.vm.findClass R_Bk = some m.cls := findClass_of_methodNamed B.named
  have C : xC p m c b_Bk_restOf 1 s args R_Bk D clA (tysA κ) 52 Θ sz := ⟨⟨hx, hb, hml, hown, hts⟩, hK, hN, hG, hsz⟩
  have hS : va_S (xA 52 Θ sz) s.heap s.heap [] := va_S.rf
  have hE := lg_entry_eq m [.int p0] 1
  rw [← hargs] at hE
  rw [hE]
  have hl := lv_entry [.int p0] (n := 1) (Nat.le_of_ble_eq_true rfl)
  generalize (lg_sl [.int p0] ++ List.replicate (1 - (lg_sl [.int p0]).length) Slot.unset).toArray = ls at hl ⊢
  have hl : lv_has ls 1 [(0, .int p0)] := hl
  unfold p_Bk_restOf at h
  refine lv_iload_n hx hb d_Bk_restOf_0 rfl (lv_at hl 0 rfl) ?_
  refine lv_sipush (v := (511 : Int32)) hx hb d_Bk_restOf_1 (by decide) ?_
  refine lv_iand hx hb d_Bk_restOf_4 ?_
  exact x_iret hx hb hr hlocks hP hS h d_Bk_restOf_5
set_option maxHeartbeats 4000000 in
set_option maxRecDepth 100000 in
theorem c_Bk_isFromMobile (l : Launch) (D : va_G) (κ : Nat → ClassId) {Θ : Nat → Nat} (hΘ : xJ 52 Θ) (sz : Nat) (p0 : Int32) (I : SI) (J : SJ) (post : Int32 → SI → SJ → Prop) (h : p_Bk_isFromMobile p0 post I J) : Met l y_Bk_isFromMobile WS rm_Bk_isFromMobile (va_Pc [.int p0] (xPR D clA (tysA κ) 52 Θ (eC Θ κ) sz I J)) (xQi D clA 52 Θ (eC Θ κ) sz post) 0 0 (xA 52 Θ sz) := by
  refine xMet (cc := b_Bk_isFromMobile) (maxL := 1) (ret := (some .boolean)) (by decide) q_Bk_isFromMobile.1 ?_
  intro p e s m args below meth c s₁ B hml hv
  obtain ⟨hargs, hsz, hP, hK, hN, hG⟩ := hv
  have hx := B.exec
  have hb := B.bytes
  have hr := B.returns
  have hlocks := B.notSynchronized
  have hts := atoms_spec (ws := WS) B.pre
  have hown : s.vm.findClass R_Bk = some m.cls := findClass_of_methodNamed B.named
  have C : xC p m c b_Bk_isFromMobile 1 s args R_Bk D clA (tysA κ) 52 Θ sz := ⟨⟨hx, hb, hml, hown, hts⟩, hK, hN, hG, hsz⟩
  have hS : va_S (xA 52 Θ sz) s.heap s.heap [] := va_S.rf
  have tJ20 : ∀ (I : SI) (J : SJ), p_Bk_isFromMobile_20 p0 post I J → ∀ (H : Heap) (locs : List Loc) (ls : Array Slot), lv_has ls 1 [] → va_P D clA (xw 52 Θ (eC Θ κ) I J) H → va_S (xA 52 Θ sz) s.heap H locs → W p l e (headSpec WS rm_Bk_isFromMobile).room s m args below meth c H locs 0 0 (MQ below (xQi D clA 52 Θ (eC Θ κ) sz post) args s 0 0 (xA 52 Θ sz)) (F0 m 20 ls []) := by
    intro I J h H locs ls hl hP hS
    unfold p_Bk_isFromMobile_20 at h
    refine lv_iconst (v := (0 : Int32)) hx hb d_Bk_isFromMobile_20 (by decide) ?_
    exact x_zret hx hb hr hlocks hP hS (by decide) h d_Bk_isFromMobile_21
  have hE := lg_entry_eq m [.int p0] 1
  rw [← hargs] at hE
  rw [hE]
  have hl := lv_entry [.int p0] (n := 1) (Nat.le_of_ble_eq_true rfl)
  generalize (lg_sl [.int p0] ++ List.replicate (1 - (lg_sl [.int p0]).length) Slot.unset).toArray = ls at hl ⊢
  have hl : lv_has ls 1 [(0, .int p0)] := hl
  unfold p_Bk_isFromMobile at h
  refine lv_iload_n hx hb d_Bk_isFromMobile_0 rfl (lv_at hl 0 rfl) ?_
  refine x_gi (x_S C hP hS (c_Bk_kindOf l D κ hΘ sz p0 I J _ h) q_Bk_kindOf k_250 k_593 rfl rfl ⟨Nat.le_of_ble_eq_true rfl, Nat.le_of_ble_eq_true rfl⟩ rfl hl.1 rfl (Nat.le_of_ble_eq_true rfl) d_Bk_isFromMobile_1) hS (fun r3 I1 J2 h H locs hP hS => ?_)
  refine lv_iconst (v := (1 : Int32)) hx hb d_Bk_isFromMobile_4 (by decide) ?_
  refine lv_icmp_lt hx hb d_Bk_isFromMobile_5 (tgt := 20) rfl (fun hc8 => ?_) (fun hc8 => ?_)
  · have h := h.1 hc8
    exact tJ20 _ _ h _ _ _ (lv_sub hl [] rfl) hP hS
  · have h := h.2 hc8
    refine lv_iload_n hx hb d_Bk_isFromMobile_8 rfl (lv_at hl 0 rfl) ?_
    refine x_gi (x_S C hP hS (c_Bk_kindOf l D κ hΘ sz p0 I1 J2 _ h) q_Bk_kindOf k_250 k_593 rfl rfl ⟨Nat.le_of_ble_eq_true rfl, Nat.le_of_ble_eq_true rfl⟩ rfl hl.1 rfl (Nat.le_of_ble_eq_true rfl) d_Bk_isFromMobile_9) hS (fun r6 I4 J5 h H locs hP hS => ?_)
    refine lv_iconst (v := (3 : Int32)) hx hb d_Bk_isFromMobile_12 (by decide) ?_
    refine lv_icmp_gt hx hb d_Bk_isFromMobile_13 (tgt := 20) rfl (fun hc7 => ?_) (fun hc7 => ?_)
    · have h := h.1 hc7
      exact tJ20 _ _ h _ _ _ (lv_sub hl [] rfl) hP hS
    · have h := h.2 hc7
      refine lv_iconst (v := (1 : Int32)) hx hb d_Bk_isFromMobile_16 (by decide) ?_
      refine lv_goto hx hb d_Bk_isFromMobile_17 (tgt := 21) rfl ?_
      exact x_zret hx hb hr hlocks hP hS (by decide) h d_Bk_isFromMobile_21
