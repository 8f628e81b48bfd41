theorem k_3 : (Jvm.Cond.initialized "java/lang/Integer") ∈ WS := WS_of 3 (by decide +kernel) (by decide +kernel)
theorem k_39 : (Jvm.Cond.code y_In_bitCount prog_15_method_49_code (1 : Nat) (Option.some Jvm.ClassFile.FieldType.int)) ∈ WS := WS_of 39 (by decide +kernel) (by decide +kernel)
theorem k_40 : (Jvm.Cond.constant "java/lang/Integer" (265 : Nat) (1431655765 : Int32)) ∈ WS := WS_of 40 (by decide +kernel) (by decide +kernel)
theorem k_41 : (Jvm.Cond.constant "java/lang/Integer" (266 : Nat) (858993459 : Int32)) ∈ WS := WS_of 41 (by decide +kernel) (by decide +kernel)
theorem k_42 : (Jvm.Cond.constant "java/lang/Integer" (267 : Nat) (252645135 : Int32)) ∈ WS := WS_of 42 (by decide +kernel) (by decide +kernel)
theorem k_66 : (Jvm.Cond.code y_Ar_fillI prog_21_method_103_code (4 : Nat) (Option.none : Option Jvm.ClassFile.FieldType)) ∈ WS := WS_of 66 (by decide +kernel) (by decide +kernel)
theorem q_In_bitCount : xCal y_In_bitCount b_In_bitCount 1 (some .int) 1 := ⟨k_39, k_3, by decide +kernel, by decide +kernel, by decide +kernel⟩
theorem q_Ar_fillI : xCal y_Ar_fillI b_Ar_fillI 4 none 2 := ⟨k_66, k_5, by decide +kernel, by decide +kernel, by decide +kernel⟩
def eZ (Θ : Nat → Nat) (κ : Nat → ClassId) : EE := fun _ f _ => .inl (κ 0, 0, .inl f)
/-! the cells of world G: 2 of them -/
def eG (Θ : Nat → Nat) (κ : Nat → ClassId) : EE := fun o f g =>
  if o < 1 then .inr (5, [.ref (Θ 1), .int (f 1), .int (f 2), .int (f 3), .int (f 4), .int (f 5)]) else
  .inl (κ 0, 6, .inl f)
theorem eG_Gr {Θ : Nat → Nat} {κ : Nat → ClassId} : ∀ f g, eG Θ κ 0 f g = .inr (5, [.ref (Θ 1), .int (f 1), .int (f 2), .int (f 3), .int (f 4), .int (f 5)]) := fun _ _ => rfl
theorem eG_row {Θ : Nat → Nat} {κ : Nat → ClassId} : ∀ f g, eG Θ κ 1 f g = .inl (κ 0, 6, .inl f) := fun _ _ => rfl
/-! the cells of world F: 1 of them -/
def eF (Θ : Nat → Nat) (κ : Nat → ClassId) : EE := fun o f g =>
  .inl (κ 0, 8, .inl f)
theorem eF_iarr {Θ : Nat → Nat} {κ : Nat → ClassId} : ∀ f g, eF Θ κ 0 f g = .inl (κ 0, 8, .inl f) := fun _ _ => rfl
section GF
variable {p : Program} {l : Launch} {e : Env} {R : Room} {s : State} {m : MethodId} {args : Array Value} {below : List Frame} {meth : Method} {c : Code} {H : Heap} {locs : List Loc} {Q : State → Prop}
variable {cc : ByteArray} {pc nL : Nat} {ls : Array Slot} {rest : List Value} {D : va_G} {sz : Nat} {Θ : Nat → Nat} {κ : Nat → ClassId} {I : SI} {J : SJ}
theorem pfG_Gr_18 (C : xC p m c cc nL s args R_Gr D clA (tysA κ) 2 Θ sz) (hΘ : xJ 2 Θ) (hP : va_P D clA (xw 2 Θ (eG Θ κ) I J) H) (hS : va_S (xA 2 Θ sz) s.heap H locs) {v : Int32} (hdg : decode cc pc = .ok (.putfield 18, 3)) (kk : ∀ (H1 : Heap) (locs1 : List Loc), va_P D clA (xw 2 Θ (eG Θ κ) (xu I 0 3 v) J) H1 → va_S (xA 2 Θ sz) s.heap H1 locs1 → W p l e R s m args below meth c H1 locs1 0 0 Q (F0 m (pc + 3) ls rest)) : W p l e R s m args below meth c H locs 0 0 Q (F0 m pc ls (.int v :: .ref (Θ 0) :: rest)) := by
  refine va_put (D := D) (ci := 5) (v := .int v) (ty := .int) (C := R_Gr) (T := F_Gr) (N := 6) C.1.1 C.1.2.1 C.1.2.2.2.2 in_Gr t_Gr t_Gr_ok n_Gr C.1.2.2.2.1 C.2.1 hP (xw_D hΘ) hS 0 (xw_at (Nat.le_of_ble_eq_true rfl) (eG_Gr _ _)) rfl 3 (by decide) (C.1.2.2.2.2 _ k_82) (fun _ h9 => h9) rfl (by decide +kernel) rfl rfl (Nat.le_of_ble_eq_true rfl) hdg (fun H1 locs1 h1 _ h3 => kk H1 locs1 ?_ h3)
  rw [xw_set (I' := xu I 0 3 v) (J' := J) (Nat.le_of_ble_eq_true rfl) (fun a ha => xu_o I 3 v ha) (fun _ _ => rfl) (by rw [eG_Gr]; unfold xu; rw [xr_s]; rfl)] at h1
  exact h1
theorem pfG_Gr_22 (C : xC p m c cc nL s args R_Gr D clA (tysA κ) 2 Θ sz) (hΘ : xJ 2 Θ) (hP : va_P D clA (xw 2 Θ (eG Θ κ) I J) H) (hS : va_S (xA 2 Θ sz) s.heap H locs) {v : Int32} (hdg : decode cc pc = .ok (.putfield 22, 3)) (kk : ∀ (H1 : Heap) (locs1 : List Loc), va_P D clA (xw 2 Θ (eG Θ κ) (xu I 0 4 v) J) H1 → va_S (xA 2 Θ sz) s.heap H1 locs1 → W p l e R s m args below meth c H1 locs1 0 0 Q (F0 m (pc + 3) ls rest)) : W p l e R s m args below meth c H locs 0 0 Q (F0 m pc ls (.int v :: .ref (Θ 0) :: rest)) := by
  refine va_put (D := D) (ci := 5) (v := .int v) (ty := .int) (C := R_Gr) (T := F_Gr) (N := 6) C.1.1 C.1.2.1 C.1.2.2.2.2 in_Gr t_Gr t_Gr_ok n_Gr C.1.2.2.2.1 C.2.1 hP (xw_D hΘ) hS 0 (xw_at (Nat.le_of_ble_eq_true rfl) (eG_Gr _ _)) rfl 4 (by decide) (C.1.2.2.2.2 _ k_84) (fun _ h9 => h9) rfl (by decide +kernel) rfl rfl (Nat.le_of_ble_eq_true rfl) hdg (fun H1 locs1 h1 _ h3 => kk H1 locs1 ?_ h3)
  rw [xw_set (I' := xu I 0 4 v) (J' := J) (Nat.le_of_ble_eq_true rfl) (fun a ha => xu_o I 4 v ha) (fun _ _ => rfl) (by rw [eG_Gr]; unfold xu; rw [xr_s]; rfl)] at h1
  exact h1
theorem pfG_Gr_25 (C : xC p m c cc nL s args R_Gr D clA (tysA κ) 2 Θ sz) (hΘ : xJ 2 Θ) (hP : va_P D clA (xw 2 Θ (eG Θ κ) I J) H) (hS : va_S (xA 2 Θ sz) s.heap H locs) {v : Int32} (hdg : decode cc pc = .ok (.putfield 25, 3)) (kk : ∀ (H1 : Heap) (locs1 : List Loc), va_P D clA (xw 2 Θ (eG Θ κ) (xu I 0 5 v) J) H1 → va_S (xA 2 Θ sz) s.heap H1 locs1 → W p l e R s m args below meth c H1 locs1 0 0 Q (F0 m (pc + 3) ls rest)) : W p l e R s m args below meth c H locs 0 0 Q (F0 m pc ls (.int v :: .ref (Θ 0) :: rest)) := by
  refine va_put (D := D) (ci := 5) (v := .int v) (ty := .int) (C := R_Gr) (T := F_Gr) (N := 6) C.1.1 C.1.2.1 C.1.2.2.2.2 in_Gr t_Gr t_Gr_ok n_Gr C.1.2.2.2.1 C.2.1 hP (xw_D hΘ) hS 0 (xw_at (Nat.le_of_ble_eq_true rfl) (eG_Gr _ _)) rfl 5 (by decide) (C.1.2.2.2.2 _ k_86) (fun _ h9 => h9) rfl (by decide +kernel) rfl rfl (Nat.le_of_ble_eq_true rfl) hdg (fun H1 locs1 h1 _ h3 => kk H1 locs1 ?_ h3)
  rw [xw_set (I' := xu I 0 5 v) (J' := J) (Nat.le_of_ble_eq_true rfl) (fun a ha => xu_o I 5 v ha) (fun _ _ => rfl) (by rw [eG_Gr]; unfold xu; rw [xr_s]; rfl)] at h1
  exact h1
end GF
theorem d_In_bitCount_0 : decode b_In_bitCount 0 = .ok (.iload_n 0, 1) := by decide +kernel
theorem d_In_bitCount_1 : decode b_In_bitCount 1 = .ok (.iload_n 0, 1) := by decide +kernel
theorem d_In_bitCount_2 : decode b_In_bitCount 2 = .ok (.iconst (1), 1) := by decide +kernel
theorem d_In_bitCount_3 : decode b_In_bitCount 3 = .ok (.iushr, 1) := by decide +kernel
theorem d_In_bitCount_4 : decode b_In_bitCount 4 = .ok (.ldc_w 265, 3) := by decide +kernel
theorem d_In_bitCount_7 : decode b_In_bitCount 7 = .ok (.iand, 1) := by decide +kernel
theorem d_In_bitCount_8 : decode b_In_bitCount 8 = .ok (.isub, 1) := by decide +kernel
theorem d_In_bitCount_9 : decode b_In_bitCount 9 = .ok (.istore_n 0, 1) := by decide +kernel
theorem d_In_bitCount_10 : decode b_In_bitCount 10 = .ok (.iload_n 0, 1) := by decide +kernel
theorem d_In_bitCount_11 : decode b_In_bitCount 11 = .ok (.ldc_w 266, 3) := by decide +kernel
theorem d_In_bitCount_14 : decode b_In_bitCount 14 = .ok (.iand, 1) := by decide +kernel
theorem d_In_bitCount_15 : decode b_In_bitCount 15 = .ok (.iload_n 0, 1) := by decide +kernel
theorem d_In_bitCount_16 : decode b_In_bitCount 16 = .ok (.iconst (2), 1) := by decide +kernel
theorem d_In_bitCount_17 : decode b_In_bitCount 17 = .ok (.iushr, 1) := by decide +kernel
theorem d_In_bitCount_18 : decode b_In_bitCount 18 = .ok (.ldc_w 266, 3) := by decide +kernel
theorem d_In_bitCount_21 : decode b_In_bitCount 21 = .ok (.iand, 1) := by decide +kernel
theorem d_In_bitCount_22 : decode b_In_bitCount 22 = .ok (.iadd, 1) := by decide +kernel
theorem d_In_bitCount_23 : decode b_In_bitCount 23 = .ok (.istore_n 0, 1) := by decide +kernel
theorem d_In_bitCount_24 : decode b_In_bitCount 24 = .ok (.iload_n 0, 1) := by decide +kernel
theorem d_In_bitCount_25 : decode b_In_bitCount 25 = .ok (.iload_n 0, 1) := by decide +kernel
theorem d_In_bitCount_26 : decode b_In_bitCount 26 = .ok (.iconst (4), 1) := by decide +kernel
theorem d_In_bitCount_27 : decode b_In_bitCount 27 = .ok (.iushr, 1) := by decide +kernel
theorem d_In_bitCount_28 : decode b_In_bitCount 28 = .ok (.iadd, 1) := by decide +kernel
theorem d_In_bitCount_29 : decode b_In_bitCount 29 = .ok (.ldc_w 267, 3) := by decide +kernel
theorem d_In_bitCount_32 : decode b_In_bitCount 32 = .ok (.iand, 1) := by decide +kernel
theorem d_In_bitCount_33 : decode b_In_bitCount 33 = .ok (.istore_n 0, 1) := by decide +kernel
theorem d_In_bitCount_34 : decode b_In_bitCount 34 = .ok (.iload_n 0, 1) := by decide +kernel
theorem d_In_bitCount_35 : decode b_In_bitCount 35 = .ok (.iload_n 0, 1) := by decide +kernel
theorem d_In_bitCount_36 : decode b_In_bitCount 36 = .ok (.bipush (8), 2) := by decide +kernel
theorem d_In_bitCount_38 : decode b_In_bitCount 38 = .ok (.iushr, 1) := by decide +kernel
theorem d_In_bitCount_39 : decode b_In_bitCount 39 = .ok (.iadd, 1) := by decide +kernel
theorem d_In_bitCount_40 : decode b_In_bitCount 40 = .ok (.istore_n 0, 1) := by decide +kernel
theorem d_In_bitCount_41 : decode b_In_bitCount 41 = .ok (.iload_n 0, 1) := by decide +kernel
theorem d_In_bitCount_42 : decode b_In_bitCount 42 = .ok (.iload_n 0, 1) := by decide +kernel
theorem d_In_bitCount_43 : decode b_In_bitCount 43 = .ok (.bipush (16), 2) := by decide +kernel
theorem d_In_bitCount_45 : decode b_In_bitCount 45 = .ok (.iushr, 1) := by decide +kernel
theorem d_In_bitCount_46 : decode b_In_bitCount 46 = .ok (.iadd, 1) := by decide +kernel
theorem d_In_bitCount_47 : decode b_In_bitCount 47 = .ok (.istore_n 0, 1) := by decide +kernel
theorem d_In_bitCount_48 : decode b_In_bitCount 48 = .ok (.iload_n 0, 1) := by decide +kernel
theorem d_In_bitCount_49 : decode b_In_bitCount 49 = .ok (.bipush (63), 2) := by decide +kernel
theorem d_In_bitCount_51 : decode b_In_bitCount 51 = .ok (.iand, 1) := by decide +kernel
theorem d_In_bitCount_52 : decode b_In_bitCount 52 = .ok (.ireturn, 1) := by decide +kernel
theorem d_Ar_fillI_0 : decode b_Ar_fillI 0 = .ok (.iconst (0), 1) := by decide +kernel
theorem d_Ar_fillI_1 : decode b_Ar_fillI 1 = .ok (.istore_n 2, 1) := by decide +kernel
theorem d_Ar_fillI_2 : decode b_Ar_fillI 2 = .ok (.aload_n 0, 1) := by decide +kernel
theorem d_Ar_fillI_3 : decode b_Ar_fillI 3 = .ok (.arraylength, 1) := by decide +kernel
theorem d_Ar_fillI_4 : decode b_Ar_fillI 4 = .ok (.istore_n 3, 1) := by decide +kernel
theorem d_Ar_fillI_5 : decode b_Ar_fillI 5 = .ok (.iload_n 2, 1) := by decide +kernel
theorem d_Ar_fillI_6 : decode b_Ar_fillI 6 = .ok (.iload_n 3, 1) := by decide +kernel
theorem d_Ar_fillI_7 : decode b_Ar_fillI 7 = .ok (.if_icmp .ge (13), 3) := by decide +kernel
theorem d_Ar_fillI_10 : decode b_Ar_fillI 10 = .ok (.aload_n 0, 1) := by decide +kernel
theorem d_Ar_fillI_11 : decode b_Ar_fillI 11 = .ok (.iload_n 2, 1) := by decide +kernel
theorem d_Ar_fillI_12 : decode b_Ar_fillI 12 = .ok (.iload_n 1, 1) := by decide +kernel
theorem d_Ar_fillI_13 : decode b_Ar_fillI 13 = .ok (.iastore, 1) := by decide +kernel
theorem d_Ar_fillI_14 : decode b_Ar_fillI 14 = .ok (.iinc 2 (1), 3) := by decide +kernel
theorem d_Ar_fillI_17 : decode b_Ar_fillI 17 = .ok (.goto (-12), 3) := by decide +kernel
theorem d_Ar_fillI_20 : decode b_Ar_fillI 20 = .ok (.return_, 1) := by decide +kernel
def p_Co_colourRowZ_L12 (p0 : Int32) (post : Int64 → SI → SJ → Prop) : Nat → Int32 → Int64 → Int32 → SI → SJ → Prop
  | 0, _, _, _, _, _ => False
  | n + 1, v1, v2, v4, I, J => (((54 : Int32) ≤ v4 → post v2 I J) ∧ (¬ (54 : Int32) ≤ v4 → ∀ x4, x4 = v2 ||| (xll (Int32.toInt64 (v1 &&& (1 : Int32))) v4) → ∀ x5, x5 = (v1 ^^^ (xsu v1 (3 : Int32))) &&& (1 : Int32) → ∀ x6, x6 = (xsu v1 (1 : Int32)) ||| (xsl x5 (6 : Int32)) → ∀ x7, x7 = v4 + (1 : Int32) → p_Co_colourRowZ_L12 p0 post n x6 x4 x7 I J))
def p_Co_colourRowZ (p0 : Int32) (post : Int64 → SI → SJ → Prop) (I : SI) (J : SJ) : Prop :=
  ∀ x1, x1 = ((9 : Int32) * p0) + (1 : Int32) → ∀ x2, x2 = (0 : Int64) → ∀ x3, x3 = (0 : Int32) → ∃ n9, p_Co_colourRowZ_L12 p0 post n9 x1 x2 x3 I J
abbrev rm_Co_colourRowZ : Room := { frames := 0, cells := 0, slots := 0, locals := 0 }
def p_In_bitCountZ (p0 : Int32) (post : Int32 → SI → SJ → Prop) (I : SI) (J : SJ) : Prop :=
  ∀ x1, x1 = p0 - ((xsu p0 (1 : Int32)) &&& (1431655765 : Int32)) → ∀ x2, x2 = (x1 &&& (858993459 : Int32)) + ((xsu x1 (2 : Int32)) &&& (858993459 : Int32)) → ∀ x3, x3 = (x2 + (xsu x2 (4 : Int32))) &&& (252645135 : Int32) → ∀ x4, x4 = x3 + (xsu x3 (8 : Int32)) → ∀ x5, x5 = x4 + (xsu x4 (16 : Int32)) → post (x5 &&& (63 : Int32)) I J
abbrev rm_In_bitCountZ : Room := { frames := 0, cells := 0, slots := 0, locals := 0 }
def p_Gr_endCallG (post : SI → SJ → Prop) (I : SI) (J : SJ) : Prop :=
  ∀ I1, I1 = xu I (0) 3 (-1 : Int32) → ∀ I2, I2 = xu I1 (0) 4 (-1 : Int32) → ∀ I3, I3 = xu I2 (0) 5 (-1 : Int32) → post I3 J
abbrev rm_Gr_endCallG : Room := { frames := 0, cells := 0, slots := 0, locals := 0 }
def p_Ar_fillIF_L5 (p1 : Int32) (post : SI → SJ → Prop) : Nat → Int32 → Int32 → SI → SJ → Prop
  | 0, _, _, _, _ => False
  | n + 1, v2, v3, I, J => ((v3 ≤ v2 → post I J) ∧ (¬ v3 ≤ v2 → ∃ j3, v2 = nI j3 ∧ j3 < 8 ∧ ∀ I4, I4 = xu I (0) j3 p1 → ∀ x5, x5 = v2 + (1 : Int32) → p_Ar_fillIF_L5 p1 post n x5 v3 I4 J))
def p_Ar_fillIF (p1 : Int32) (post : SI → SJ → Prop) (I : SI) (J : SJ) : Prop :=
  ∀ x1, x1 = (0 : Int32) → ∀ x2, x2 = (8 : Int32) → ∃ n7, p_Ar_fillIF_L5 p1 post n7 x1 x2 I J
abbrev rm_Ar_fillIF : Room := { frames := 0, cells := 0, slots := 0, locals := 0 }
set_option maxHeartbeats 4000000 in
set_option maxRecDepth 100000 in
theorem c_Co_colourRowZ (l : Launch) (D : va_G) (κ : Nat → ClassId) {Θ : Nat → Nat} (hΘ : xJ 0 Θ) (sz : Nat) (p0 : Int32) (I : SI) (J : SJ) (post : Int64 → SI → SJ → Prop) (h : p_Co_colourRowZ p0 post I J) : Met l y_Co_colourRow WS rm_Co_colourRowZ (va_Pc [.int p0] (xPR D clA (tysA κ) 0 Θ (eZ Θ κ) sz I J)) (xQl D clA 0 Θ (eZ Θ κ) sz post) 0 0 (xA 0 Θ sz) := by
  refine xMet (cc := b_Co_colourRow) (maxL := 6) (ret := (some .long)) (by decide) q_Co_colourRow.1 ?_
  intro p e s m args below meth c s₁ B hml hv
  obtain ⟨hargs, hsz, hP, hK, hN, hG⟩ := hv
  have hx := B.exec
  have hb := B.bytes
  have hr := B.returns
  have hlocks := B.notSynchronized
  have hts := atoms_spec (ws := WS) B.pre
  have hown : s.vm.findClass R_Co = some m.cls := findClass_of_methodNamed B.named
  have C : xC p m c b_Co_colourRow 6 s args R_Co D clA (tysA κ) 0 Θ sz := ⟨⟨hx, hb, hml, hown, hts⟩, hK, hN, hG, hsz⟩
  have hS : va_S (xA 0 Θ sz) s.heap s.heap [] := va_S.rf
  have tL12 : ∀ (n : Nat) (v1 : Int32) (v2 : Int64) (v4 : Int32) (I : SI) (J : SJ), p_Co_colourRowZ_L12 p0 post n v1 v2 v4 I J → ∀ (H : Heap) (locs : List Loc) (ls : Array Slot), lv_has ls 6 [(1, .int v1), (2, .long v2), (4, .int v4)] → va_P D clA (xw 0 Θ (eZ Θ κ) I J) H → va_S (xA 0 Θ sz) s.heap H locs → W p l e (headSpec WS rm_Co_colourRowZ).room s m args below meth c H locs 0 0 (MQ below (xQl D clA 0 Θ (eZ Θ κ) sz post) args s 0 0 (xA 0 Θ sz)) (F0 m 12 ls []) := by
    intro n
    induction n with
    | zero =>
      intro v1 v2 v4 I J h H locs ls hl hP hS
      exact h.elim
    | succ n ih =>
      intro v1 v2 v4 I J h H locs ls hl hP hS
      unfold p_Co_colourRowZ_L12 at h
      refine lv_iload hx hb d_Co_colourRow_12 (lv_at hl 2 rfl) ?_
      refine lv_bipush (v := (54 : Int32)) hx hb d_Co_colourRow_14 (by decide) ?_
      refine lv_icmp_ge hx hb d_Co_colourRow_16 (tgt := 54) rfl (fun hc8 => ?_) (fun hc8 => ?_)
      · have h := h.1 hc8
        refine lv_lload_n hx hb d_Co_colourRow_54 rfl (lv_at hl 1 rfl) ?_
        exact x_lret hx hb hr hlocks hP hS h d_Co_colourRow_55
      · have h := h.2 hc8
        refine lv_lload_n hx hb d_Co_colourRow_19 rfl (lv_at hl 1 rfl) ?_
        refine lv_iload_n hx hb d_Co_colourRow_20 rfl (lv_at hl 0 rfl) ?_
        refine lv_iconst (v := (1 : Int32)) hx hb d_Co_colourRow_21 (by decide) ?_
        refine lv_iand hx hb d_Co_colourRow_22 ?_
        refine lv_i2l (v := Int32.toInt64 (v1 &&& (1 : Int32))) hx hb d_Co_colourRow_23 rfl ?_
        refine lv_iload hx hb d_Co_colourRow_24 (lv_at hl 2 rfl) ?_
        refine lv_lshl (v := xll (Int32.toInt64 (v1 &&& (1 : Int32))) v4) hx hb d_Co_colourRow_26 rfl ?_
        refine lv_lor hx hb d_Co_colourRow_27 ?_
        refine lv_topl (fun x4 ex4 => ?_)
        have h := h x4 ex4
        refine lv_lstore_n hx hb d_Co_colourRow_28 rfl hl (Nat.le_of_ble_eq_true rfl) (lv' := [(2, .long x4), (1, .int v1), (4, .int v4)]) rfl (fun ls hl => ?_)
        refine lv_iload_n hx hb d_Co_colourRow_29 rfl (lv_at hl 1 rfl) ?_
        refine lv_iload_n hx hb d_Co_colourRow_30 rfl (lv_at hl 1 rfl) ?_
        refine lv_iconst (v := (3 : Int32)) hx hb d_Co_colourRow_31 (by decide) ?_
        refine lv_iushr (v := xsu v1 (3 : Int32)) hx hb d_Co_colourRow_32 rfl ?_
        refine lv_ixor hx hb d_Co_colourRow_33 ?_
        refine lv_iconst (v := (1 : Int32)) hx hb d_Co_colourRow_34 (by decide) ?_
        refine lv_iand hx hb d_Co_colourRow_35 ?_
        refine lv_topi (fun x5 ex5 => ?_)
        have h := h x5 ex5
        refine lv_istore hx hb d_Co_colourRow_36 hl (Nat.le_of_ble_eq_true rfl) (lv' := [(5, .int x5), (2, .long x4), (1, .int v1), (4, .int v4)]) rfl (fun ls hl => ?_)
        refine lv_iload_n hx hb d_Co_colourRow_38 rfl (lv_at hl 2 rfl) ?_
        refine lv_iconst (v := (1 : Int32)) hx hb d_Co_colourRow_39 (by decide) ?_
        refine lv_iushr (v := xsu v1 (1 : Int32)) hx hb d_Co_colourRow_40 rfl ?_
        refine lv_iload hx hb d_Co_colourRow_41 (lv_at hl 0 rfl) ?_
        refine lv_bipush (v := (6 : Int32)) hx hb d_Co_colourRow_43 (by decide) ?_
        refine lv_ishl hx hb d_Co_colourRow_45 ?_
        refine lv_ior hx hb d_Co_colourRow_46 ?_
        refine lv_topi (fun x6 ex6 => ?_)
        have h := h x6 ex6
        refine lv_istore_n hx hb d_Co_colourRow_47 rfl hl (Nat.le_of_ble_eq_true rfl) (lv' := [(1, .int x6), (5, .int x5), (2, .long x4), (4, .int v4)]) rfl (fun ls hl => ?_)
        obtain ⟨x7, ex7⟩ : ∃ y : Int32, y = v4 + (1 : Int32) := ⟨_, rfl⟩
        have h := h x7 ex7
        refine lv_iinc (k := 3) (v := x7) hx hb d_Co_colourRow_48 hl rfl (by rw [ex7]; rfl) (Nat.le_of_ble_eq_true rfl) (lv' := [(4, .int x7), (1, .int x6), (5, .int x5), (2, .long x4)]) rfl (fun ls hl => ?_)
        refine lv_goto hx hb d_Co_colourRow_51 (tgt := 12) rfl ?_
        exact ih _ _ _ _ _ h _ _ _ (lv_sub hl [1, 3, 0] rfl) hP hS
  have hE := lg_entry_eq m [.int p0] 6
  rw [← hargs] at hE
  rw [hE]
  have hl := lv_entry [.int p0] (n := 6) (Nat.le_of_ble_eq_true rfl)
  generalize (lg_sl [.int p0] ++ List.replicate (6 - (lg_sl [.int p0]).length) Slot.unset).toArray = ls at hl ⊢
  have hl : lv_has ls 6 [(0, .int p0)] := hl
  unfold p_Co_colourRowZ at h
  refine lv_bipush (v := (9 : Int32)) hx hb d_Co_colourRow_0 (by decide) ?_
  refine lv_iload_n hx hb d_Co_colourRow_2 rfl (lv_at hl 0 rfl) ?_
  refine lv_imul hx hb d_Co_colourRow_3 ?_
  refine lv_iconst (v := (1 : Int32)) hx hb d_Co_colourRow_4 (by decide) ?_
  refine lv_iadd hx hb d_Co_colourRow_5 ?_
  refine lv_topi (fun x1 ex1 => ?_)
  have h := h x1 ex1
  refine lv_istore_n hx hb d_Co_colourRow_6 rfl hl (Nat.le_of_ble_eq_true rfl) (lv' := [(1, .int x1), (0, .int p0)]) rfl (fun ls hl => ?_)
  refine lv_lconst (v := (0 : Int64)) hx hb d_Co_colourRow_7 (by decide) ?_
  refine lv_topl (fun x2 ex2 => ?_)
  have h := h x2 ex2
  refine lv_lstore_n hx hb d_Co_colourRow_8 rfl hl (Nat.le_of_ble_eq_true rfl) (lv' := [(2, .long x2), (1, .int x1), (0, .int p0)]) rfl (fun ls hl => ?_)
  refine lv_iconst (v := (0 : Int32)) hx hb d_Co_colourRow_9 (by decide) ?_
  refine lv_topi (fun x3 ex3 => ?_)
  have h := h x3 ex3
  refine lv_istore hx hb d_Co_colourRow_10 hl (Nat.le_of_ble_eq_true rfl) (lv' := [(4, .int x3), (2, .long x2), (1, .int x1), (0, .int p0)]) rfl (fun ls hl => ?_)
  obtain ⟨n9, h⟩ := h
  refine tL12 n9 _ _ _ _ _ h _ _ _ (lv_sub hl [2, 1, 0] rfl) hP hS
set_option maxHeartbeats 4000000 in
set_option maxRecDepth 100000 in
theorem c_In_bitCountZ (l : Launch) (D : va_G) (κ : Nat → ClassId) {Θ : Nat → Nat} (hΘ : xJ 0 Θ) (sz : Nat) (p0 : Int32) (I : SI) (J : SJ) (post : Int32 → SI → SJ → Prop) (h : p_In_bitCountZ p0 post I J) : Met l y_In_bitCount WS rm_In_bitCountZ (va_Pc [.int p0] (xPR D clA (tysA κ) 0 Θ (eZ Θ κ) sz I J)) (xQi D clA 0 Θ (eZ Θ κ) sz post) 0 0 (xA 0 Θ sz) := by
  refine xMet (cc := b_In_bitCount) (maxL := 1) (ret := (some .int)) (by decide) q_In_bitCount.1 ?_
  intro p e s m args below meth c s₁ B hml hv
  obtain ⟨hargs, hsz, hP, hK, hN, hG⟩ := hv
  have hx := B.exec
  have hb := B.bytes
  have hr := B.returns
  have hlocks := B.notSynchronized
  have hts := atoms_spec (ws := WS) B.pre
  have hown : s.vm.findClass R_In = some m.cls := findClass_of_methodNamed B.named
  have C : xC p m c b_In_bitCount 1 s args R_In D clA (tysA κ) 0 Θ sz := ⟨⟨hx, hb, hml, hown, hts⟩, hK, hN, hG, hsz⟩
  have hS : va_S (xA 0 Θ sz) s.heap s.heap [] := va_S.rf
  have hE := lg_entry_eq m [.int p0] 1
  rw [← hargs] at hE
  rw [hE]
  have hl := lv_entry [.int p0] (n := 1) (Nat.le_of_ble_eq_true rfl)
  generalize (lg_sl [.int p0] ++ List.replicate (1 - (lg_sl [.int p0]).length) Slot.unset).toArray = ls at hl ⊢
  have hl : lv_has ls 1 [(0, .int p0)] := hl
  unfold p_In_bitCountZ at h
  refine lv_iload_n hx hb d_In_bitCount_0 rfl (lv_at hl 0 rfl) ?_
  refine lv_iload_n hx hb d_In_bitCount_1 rfl (lv_at hl 0 rfl) ?_
  refine lv_iconst (v := (1 : Int32)) hx hb d_In_bitCount_2 (by decide) ?_
  refine lv_iushr (v := xsu p0 (1 : Int32)) hx hb d_In_bitCount_3 rfl ?_
  refine lv_ldcw (v := (1431655765 : Int32)) hx hb hown (hts _ k_40) d_In_bitCount_4 ?_
  refine lv_iand hx hb d_In_bitCount_7 ?_
  refine lv_isub hx hb d_In_bitCount_8 ?_
  refine lv_topi (fun x1 ex1 => ?_)
  have h := h x1 ex1
  refine lv_istore_n hx hb d_In_bitCount_9 rfl hl (Nat.le_of_ble_eq_true rfl) (lv' := [(0, .int x1)]) rfl (fun ls hl => ?_)
  refine lv_iload_n hx hb d_In_bitCount_10 rfl (lv_at hl 0 rfl) ?_
  refine lv_ldcw (v := (858993459 : Int32)) hx hb hown (hts _ k_41) d_In_bitCount_11 ?_
  refine lv_iand hx hb d_In_bitCount_14 ?_
  refine lv_iload_n hx hb d_In_bitCount_15 rfl (lv_at hl 0 rfl) ?_
  refine lv_iconst (v := (2 : Int32)) hx hb d_In_bitCount_16 (by decide) ?_
  refine lv_iushr (v := xsu x1 (2 : Int32)) hx hb d_In_bitCount_17 rfl ?_
  refine lv_ldcw (v := (858993459 : Int32)) hx hb hown (hts _ k_41) d_In_bitCount_18 ?_
  refine lv_iand hx hb d_In_bitCount_21 ?_
  refine lv_iadd hx hb d_In_bitCount_22 ?_
  refine lv_topi (fun x2 ex2 => ?_)
  have h := h x2 ex2
  refine lv_istore_n hx hb d_In_bitCount_23 rfl hl (Nat.le_of_ble_eq_true rfl) (lv' := [(0, .int x2)]) rfl (fun ls hl => ?_)
  refine lv_iload_n hx hb d_In_bitCount_24 rfl (lv_at hl 0 rfl) ?_
  refine lv_iload_n hx hb d_In_bitCount_25 rfl (lv_at hl 0 rfl) ?_
  refine lv_iconst (v := (4 : Int32)) hx hb d_In_bitCount_26 (by decide) ?_
  refine lv_iushr (v := xsu x2 (4 : Int32)) hx hb d_In_bitCount_27 rfl ?_
  refine lv_iadd hx hb d_In_bitCount_28 ?_
  refine lv_ldcw (v := (252645135 : Int32)) hx hb hown (hts _ k_42) d_In_bitCount_29 ?_
  refine lv_iand hx hb d_In_bitCount_32 ?_
  refine lv_topi (fun x3 ex3 => ?_)
  have h := h x3 ex3
  refine lv_istore_n hx hb d_In_bitCount_33 rfl hl (Nat.le_of_ble_eq_true rfl) (lv' := [(0, .int x3)]) rfl (fun ls hl => ?_)
  refine lv_iload_n hx hb d_In_bitCount_34 rfl (lv_at hl 0 rfl) ?_
  refine lv_iload_n hx hb d_In_bitCount_35 rfl (lv_at hl 0 rfl) ?_
  refine lv_bipush (v := (8 : Int32)) hx hb d_In_bitCount_36 (by decide) ?_
  refine lv_iushr (v := xsu x3 (8 : Int32)) hx hb d_In_bitCount_38 rfl ?_
  refine lv_iadd hx hb d_In_bitCount_39 ?_
  refine lv_topi (fun x4 ex4 => ?_)
  have h := h x4 ex4
  refine lv_istore_n hx hb d_In_bitCount_40 rfl hl (Nat.le_of_ble_eq_true rfl) (lv' := [(0, .int x4)]) rfl (fun ls hl => ?_)
  refine lv_iload_n hx hb d_In_bitCount_41 rfl (lv_at hl 0 rfl) ?_
  refine lv_iload_n hx hb d_In_bitCount_42 rfl (lv_at hl 0 rfl) ?_
  refine lv_bipush (v := (16 : Int32)) hx hb d_In_bitCount_43 (by decide) ?_
  refine lv_iushr (v := xsu x4 (16 : Int32)) hx hb d_In_bitCount_45 rfl ?_
  refine lv_iadd hx hb d_In_bitCount_46 ?_
  refine lv_topi (fun x5 ex5 => ?_)
  have h := h x5 ex5
  refine lv_istore_n hx hb d_In_bitCount_47 rfl hl (Nat.le_of_ble_eq_true rfl) (lv' := [(0, .int x5)]) rfl (fun ls hl => ?_)
  refine lv_iload_n hx hb d_In_bitCount_48 rfl (lv_at hl 0 rfl) ?_
  refine lv_bipush (v := (63 : Int32)) hx hb d_In_bitCount_49 (by decide) ?_
  refine lv_iand hx hb d_In_bitCount_51 ?_
  exact x_iret hx hb hr hlocks hP hS h d_In_bitCount_52
set_option maxHeartbeats 4000000 in
set_option maxRecDepth 100000 in
theorem c_Gr_endCallG (l : Launch) (D : va_G) (κ : Nat → ClassId) {Θ : Nat → Nat} (hΘ : xJ 2 Θ) (sz : Nat) (I : SI) (J : SJ) (post : SI → SJ → Prop) (h : p_Gr_endCallG post I J) : Met l y_Gr_endCall WS rm_Gr_endCallG (va_Pc [.ref (Θ (0))] (xPR D clA (tysA κ) 2 Θ (eG Θ κ) sz I J)) (xQv D clA 2 Θ (eG Θ κ) sz post) 0 0 (xA 2 Θ sz) := by
  refine xMet (cc := b_Gr_endCall) (maxL := 1) (ret := none) (by decide) q_Gr_endCall.1 ?_
  intro p e s m args below meth c s₁ B hml hv
  obtain ⟨hargs, hsz, hP, hK, hN, hG⟩ := hv
  have hx := B.exec
  have hb := B.bytes
  have hr := B.returns
  have hlocks := B.notSynchronized
  have hts := atoms_spec (ws := WS) B.pre
  have hown : s.vm.findClass R_Gr = some m.cls := findClass_of_methodNamed B.named
  have C : xC p m c b_Gr_endCall 1 s args R_Gr D clA (tysA κ) 2 Θ sz := ⟨⟨hx, hb, hml, hown, hts⟩, hK, hN, hG, hsz⟩
  have hS : va_S (xA 2 Θ sz) s.heap s.heap [] := va_S.rf
  have hE := lg_entry_eq m [.ref (Θ (0))] 1
  rw [← hargs] at hE
  rw [hE]
  have hl := lv_entry [.ref (Θ (0))] (n := 1) (Nat.le_of_ble_eq_true rfl)
  generalize (lg_sl [.ref (Θ (0))] ++ List.replicate (1 - (lg_sl [.ref (Θ (0))]).length) Slot.unset).toArray = ls at hl ⊢
  have hl : lv_has ls 1 [(0, .ref (Θ (0)))] := hl
  unfold p_Gr_endCallG at h
  refine lv_aload_n hx hb d_Gr_endCall_0 rfl (lv_at hl 0 rfl) ?_
  refine lv_iconst (v := (-1 : Int32)) hx hb d_Gr_endCall_1 (by decide) ?_
  refine pfG_Gr_18 C hΘ hP hS d_Gr_endCall_2 (fun H locs hP hS => ?_)
  obtain ⟨I1, eI1⟩ : ∃ y, y = xu I (0) 3 (-1 : Int32) := ⟨_, rfl⟩
  have hP : va_P D clA (xw 2 Θ (eG Θ κ) I1 J) H := by rw [eI1]; exact hP
  have h := h I1 eI1
  refine lv_aload_n hx hb d_Gr_endCall_5 rfl (lv_at hl 0 rfl) ?_
  refine lv_iconst (v := (-1 : Int32)) hx hb d_Gr_endCall_6 (by decide) ?_
  refine pfG_Gr_22 C hΘ hP hS d_Gr_endCall_7 (fun H locs hP hS => ?_)
  obtain ⟨I2, eI2⟩ : ∃ y, y = xu I1 (0) 4 (-1 : Int32) := ⟨_, rfl⟩
  have hP : va_P D clA (xw 2 Θ (eG Θ κ) I2 J) H := by rw [eI2]; exact hP
  have h := h I2 eI2
  refine lv_aload_n hx hb d_Gr_endCall_10 rfl (lv_at hl 0 rfl) ?_
  refine lv_iconst (v := (-1 : Int32)) hx hb d_Gr_endCall_11 (by decide) ?_
  refine pfG_Gr_25 C hΘ hP hS d_Gr_endCall_12 (fun H locs hP hS => ?_)
  obtain ⟨I3, eI3⟩ : ∃ y, y = xu I2 (0) 5 (-1 : Int32) := ⟨_, rfl⟩
  have hP : va_P D clA (xw 2 Θ (eG Θ κ) I3 J) H := by rw [eI3]; exact hP
  have h := h I3 eI3
  exact x_vret hx hb hr hlocks hP hS h d_Gr_endCall_15
set_option maxHeartbeats 4000000 in
set_option maxRecDepth 100000 in
theorem c_Ar_fillIF (l : Launch) (D : va_G) (κ : Nat → ClassId) {Θ : Nat → Nat} (hΘ : xJ 1 Θ) (sz : Nat) (p1 : Int32) (I : SI) (J : SJ) (post : SI → SJ → Prop) (h : p_Ar_fillIF p1 post I J) : Met l y_Ar_fillI WS rm_Ar_fillIF (va_Pc [.ref (Θ (0)), .int p1] (xPR D clA (tysA κ) 1 Θ (eF Θ κ) sz I J)) (xQv D clA 1 Θ (eF Θ κ) sz post) 0 0 (xA 1 Θ sz) := by
  refine xMet (cc := b_Ar_fillI) (maxL := 4) (ret := none) (by decide) q_Ar_fillI.1 ?_
  intro p e s m args below meth c s₁ B hml hv
  obtain ⟨hargs, hsz, hP, hK, hN, hG⟩ := hv
  have hx := B.exec
  have hb := B.bytes
  have hr := B.returns
  have hlocks := B.notSynchronized
  have hts := atoms_spec (ws := WS) B.pre
  have hown : s.vm.findClass R_Ar = some m.cls := findClass_of_methodNamed B.named
  have C : xC p m c b_Ar_fillI 4 s args R_Ar D clA (tysA κ) 1 Θ sz := ⟨⟨hx, hb, hml, hown, hts⟩, hK, hN, hG, hsz⟩
  have hS : va_S (xA 1 Θ sz) s.heap s.heap [] := va_S.rf
  have tL5 : ∀ (n : Nat) (v2 : Int32) (v3 : Int32) (I : SI) (J : SJ), p_Ar_fillIF_L5 p1 post n v2 v3 I J → ∀ (H : Heap) (locs : List Loc) (ls : Array Slot), lv_has ls 4 [(0, .ref (Θ (0))), (1, .int p1), (2, .int v2), (3, .int v3)] → va_P D clA (xw 1 Θ (eF Θ κ) I J) H → va_S (xA 1 Θ sz) s.heap H locs → W p l e (headSpec WS rm_Ar_fillIF).room s m args below meth c H locs 0 0 (MQ below (xQv D clA 1 Θ (eF Θ κ) sz post) args s 0 0 (xA 1 Θ sz)) (F0 m 5 ls []) := by
    intro n
    induction n with
    | zero =>
      intro v2 v3 I J h H locs ls hl hP hS
      exact h.elim
    | succ n ih =>
      intro v2 v3 I J h H locs ls hl hP hS
      unfold p_Ar_fillIF_L5 at h
      refine lv_iload_n hx hb d_Ar_fillI_5 rfl (lv_at hl 2 rfl) ?_
      refine lv_iload_n hx hb d_Ar_fillI_6 rfl (lv_at hl 3 rfl) ?_
      refine lv_icmp_ge hx hb d_Ar_fillI_7 (tgt := 20) rfl (fun hc6 => ?_) (fun hc6 => ?_)
      · have h := h.1 hc6
        exact x_vret hx hb hr hlocks hP hS h d_Ar_fillI_20
      · have h := h.2 hc6
        refine lv_aload_n hx hb d_Ar_fillI_10 rfl (lv_at hl 0 rfl) ?_
        refine lv_iload_n hx hb d_Ar_fillI_11 rfl (lv_at hl 2 rfl) ?_
        refine lv_iload_n hx hb d_Ar_fillI_12 rfl (lv_at hl 1 rfl) ?_
        obtain ⟨j3, ej3, h_j3, h⟩ := h
        refine x_iast hx hb hK hΘ hP hS (0) 0 (Nat.le_of_ble_eq_true rfl) eF_iarr rfl ej3 h_j3 (by decide) d_Ar_fillI_13 (fun H locs hP hS => ?_)
        obtain ⟨I4, eI4⟩ : ∃ y, y = xu I (0) j3 p1 := ⟨_, rfl⟩
        have hP : va_P D clA (xw 1 Θ (eF Θ κ) I4 J) H := by rw [eI4]; exact hP
        have h := h I4 eI4
        obtain ⟨x5, ex5⟩ : ∃ y : Int32, y = v2 + (1 : Int32) := ⟨_, rfl⟩
        have h := h x5 ex5
        refine lv_iinc (k := 2) (v := x5) hx hb d_Ar_fillI_14 hl rfl (by rw [ex5]; rfl) (Nat.le_of_ble_eq_true rfl) (lv' := [(2, .int x5), (0, .ref (Θ (0))), (1, .int p1), (3, .int v3)]) rfl (fun ls hl => ?_)
        refine lv_goto hx hb d_Ar_fillI_17 (tgt := 5) rfl ?_
        exact ih _ _ _ _ h _ _ _ (lv_sub hl [1, 2, 0, 3] rfl) hP hS
  have hE := lg_entry_eq m [.ref (Θ (0)), .int p1] 4
  rw [← hargs] at hE
  rw [hE]
  have hl := lv_entry [.ref (Θ (0)), .int p1] (n := 4) (Nat.le_of_ble_eq_true rfl)
  generalize (lg_sl [.ref (Θ (0)), .int p1] ++ List.replicate (4 - (lg_sl [.ref (Θ (0)), .int p1]).length) Slot.unset).toArray = ls at hl ⊢
  have hl : lv_has ls 4 [(0, .ref (Θ (0))), (1, .int p1)] := hl
  unfold p_Ar_fillIF at h
  refine lv_iconst (v := (0 : Int32)) hx hb d_Ar_fillI_0 (by decide) ?_
  refine lv_topi (fun x1 ex1 => ?_)
  have h := h x1 ex1
  refine lv_istore_n hx hb d_Ar_fillI_1 rfl hl (Nat.le_of_ble_eq_true rfl) (lv' := [(2, .int x1), (0, .ref (Θ (0))), (1, .int p1)]) rfl (fun ls hl => ?_)
  refine lv_aload_n hx hb d_Ar_fillI_2 rfl (lv_at hl 1 rfl) ?_
  refine va_alen (v := (8 : Int32)) hx hb hK hP (0) 0 (xw_at (Nat.le_of_ble_eq_true rfl) (eF_iarr _ _)) rfl rfl d_Ar_fillI_3 ?_
  refine lv_topi (fun x2 ex2 => ?_)
  have h := h x2 ex2
  refine lv_istore_n hx hb d_Ar_fillI_4 rfl hl (Nat.le_of_ble_eq_true rfl) (lv' := [(3, .int x2), (2, .int x1), (0, .ref (Θ (0))), (1, .int p1)]) rfl (fun ls hl => ?_)
  obtain ⟨n7, h⟩ := h
  refine tL5 n7 _ _ _ _ h _ _ _ (lv_sub hl [2, 3, 1, 0] rfl) hP hS
