theorem k_32 : (Jvm.Cond.code y_Co_init prog_4_method_1_code (2 : Nat) (Option.none : Option Jvm.ClassFile.FieldType)) ∈ WS := WS_of 32 (by decide +kernel) (by decide +kernel)
theorem k_33 : (Jvm.Cond.methodLink "TrunkCells$Coder" (5 : Nat) (⟨"java/lang/Object", "<init>", "()V"⟩ : MethodName)) ∈ WS := WS_of 33 (by decide +kernel) (by decide +kernel)
theorem k_34 : (Jvm.Cond.methodLink "TrunkCells$Coder" (15 : Nat) y_Co_colourRow) ∈ WS := WS_of 34 (by decide +kernel) (by decide +kernel)
theorem k_35 : (Jvm.Cond.static y_Co_colourRow) ∈ WS := WS_of 35 (by decide +kernel) (by decide +kernel)
theorem k_37 : (Jvm.Cond.methodLink "TrunkCells$Coder" (23 : Nat) y_In_bitCount) ∈ WS := WS_of 37 (by decide +kernel) (by decide +kernel)
theorem k_38 : (Jvm.Cond.static y_In_bitCount) ∈ WS := WS_of 38 (by decide +kernel) (by decide +kernel)
theorem k_56 : (Jvm.Cond.arrayClass Jvm.ClassFile.FieldType.long) ∈ WS := WS_of 56 (by decide +kernel) (by decide +kernel)
theorem q_Co_init : xCal y_Co_init b_Co_init 2 none 0 := ⟨k_32, k_2, by decide +kernel, by decide +kernel, by decide +kernel⟩
theorem d_Co_init_0 : decode b_Co_init 0 = .ok (.aload_n 0, 1) := by decide +kernel
theorem d_Co_init_1 : decode b_Co_init 1 = .ok (.invokespecial 5, 3) := by decide +kernel
theorem d_Co_init_4 : decode b_Co_init 4 = .ok (.aload_n 0, 1) := by decide +kernel
theorem d_Co_init_5 : decode b_Co_init 5 = .ok (.bipush (8), 2) := by decide +kernel
theorem d_Co_init_7 : decode b_Co_init 7 = .ok (.newarray .long, 2) := by decide +kernel
theorem d_Co_init_9 : decode b_Co_init 9 = .ok (.putfield 11, 3) := by decide +kernel
theorem d_Co_init_12 : decode b_Co_init 12 = .ok (.iconst (0), 1) := by decide +kernel
theorem d_Co_init_13 : decode b_Co_init 13 = .ok (.istore_n 1, 1) := by decide +kernel
theorem d_Co_init_14 : decode b_Co_init 14 = .ok (.iload_n 1, 1) := by decide +kernel
theorem d_Co_init_15 : decode b_Co_init 15 = .ok (.bipush (8), 2) := by decide +kernel
theorem d_Co_init_17 : decode b_Co_init 17 = .ok (.if_icmp .ge (19), 3) := by decide +kernel
theorem d_Co_init_20 : decode b_Co_init 20 = .ok (.aload_n 0, 1) := by decide +kernel
theorem d_Co_init_21 : decode b_Co_init 21 = .ok (.getfield 11, 3) := by decide +kernel
theorem d_Co_init_24 : decode b_Co_init 24 = .ok (.iload_n 1, 1) := by decide +kernel
theorem d_Co_init_25 : decode b_Co_init 25 = .ok (.iload_n 1, 1) := by decide +kernel
theorem d_Co_init_26 : decode b_Co_init 26 = .ok (.invokestatic 15, 3) := by decide +kernel
theorem d_Co_init_29 : decode b_Co_init 29 = .ok (.lastore, 1) := by decide +kernel
theorem d_Co_init_30 : decode b_Co_init 30 = .ok (.iinc 1 (1), 3) := by decide +kernel
theorem d_Co_init_33 : decode b_Co_init 33 = .ok (.goto (-19), 3) := by decide +kernel
theorem d_Co_init_36 : decode b_Co_init 36 = .ok (.aload_n 0, 1) := by decide +kernel
theorem d_Co_init_37 : decode b_Co_init 37 = .ok (.bipush (32), 2) := by decide +kernel
theorem d_Co_init_39 : decode b_Co_init 39 = .ok (.newarray .int, 2) := by decide +kernel
theorem d_Co_init_41 : decode b_Co_init 41 = .ok (.putfield 19, 3) := by decide +kernel
theorem d_Co_init_44 : decode b_Co_init 44 = .ok (.iconst (0), 1) := by decide +kernel
theorem d_Co_init_45 : decode b_Co_init 45 = .ok (.istore_n 1, 1) := by decide +kernel
theorem d_Co_init_46 : decode b_Co_init 46 = .ok (.iload_n 1, 1) := by decide +kernel
theorem d_Co_init_47 : decode b_Co_init 47 = .ok (.bipush (32), 2) := by decide +kernel
theorem d_Co_init_49 : decode b_Co_init 49 = .ok (.if_icmp .ge (36), 3) := by decide +kernel
theorem d_Co_init_52 : decode b_Co_init 52 = .ok (.aload_n 0, 1) := by decide +kernel
theorem d_Co_init_53 : decode b_Co_init 53 = .ok (.getfield 19, 3) := by decide +kernel
theorem d_Co_init_56 : decode b_Co_init 56 = .ok (.iload_n 1, 1) := by decide +kernel
theorem d_Co_init_57 : decode b_Co_init 57 = .ok (.iload_n 1, 1) := by decide +kernel
theorem d_Co_init_58 : decode b_Co_init 58 = .ok (.bipush (25), 2) := by decide +kernel
theorem d_Co_init_60 : decode b_Co_init 60 = .ok (.iand, 1) := by decide +kernel
theorem d_Co_init_61 : decode b_Co_init 61 = .ok (.invokestatic 23, 3) := by decide +kernel
theorem d_Co_init_64 : decode b_Co_init 64 = .ok (.iconst (1), 1) := by decide +kernel
theorem d_Co_init_65 : decode b_Co_init 65 = .ok (.iand, 1) := by decide +kernel
theorem d_Co_init_66 : decode b_Co_init 66 = .ok (.iload_n 1, 1) := by decide +kernel
theorem d_Co_init_67 : decode b_Co_init 67 = .ok (.bipush (23), 2) := by decide +kernel
theorem d_Co_init_69 : decode b_Co_init 69 = .ok (.iand, 1) := by decide +kernel
theorem d_Co_init_70 : decode b_Co_init 70 = .ok (.invokestatic 23, 3) := by decide +kernel
theorem d_Co_init_73 : decode b_Co_init 73 = .ok (.iconst (1), 1) := by decide +kernel
theorem d_Co_init_74 : decode b_Co_init 74 = .ok (.iand, 1) := by decide +kernel
theorem d_Co_init_75 : decode b_Co_init 75 = .ok (.iconst (1), 1) := by decide +kernel
theorem d_Co_init_76 : decode b_Co_init 76 = .ok (.ishl, 1) := by decide +kernel
theorem d_Co_init_77 : decode b_Co_init 77 = .ok (.ior, 1) := by decide +kernel
theorem d_Co_init_78 : decode b_Co_init 78 = .ok (.iastore, 1) := by decide +kernel
theorem d_Co_init_79 : decode b_Co_init 79 = .ok (.iinc 1 (1), 3) := by decide +kernel
theorem d_Co_init_82 : decode b_Co_init 82 = .ok (.goto (-36), 3) := by decide +kernel
theorem d_Co_init_85 : decode b_Co_init 85 = .ok (.aload_n 0, 1) := by decide +kernel
theorem d_Co_init_86 : decode b_Co_init 86 = .ok (.bipush (16), 2) := by decide +kernel
theorem d_Co_init_88 : decode b_Co_init 88 = .ok (.newarray .long, 2) := by decide +kernel
theorem d_Co_init_90 : decode b_Co_init 90 = .ok (.putfield 29, 3) := by decide +kernel
theorem d_Co_init_93 : decode b_Co_init 93 = .ok (.aload_n 0, 1) := by decide +kernel
theorem d_Co_init_94 : decode b_Co_init 94 = .ok (.bipush (16), 2) := by decide +kernel
theorem d_Co_init_96 : decode b_Co_init 96 = .ok (.newarray .long, 2) := by decide +kernel
theorem d_Co_init_98 : decode b_Co_init 98 = .ok (.putfield 32, 3) := by decide +kernel
theorem d_Co_init_101 : decode b_Co_init 101 = .ok (.return_, 1) := by decide +kernel
/-! the coder's constructor -/
def bcF (p0 : Int32) : Int32 :=
  let x1 := p0 - ((xsu p0 (1 : Int32)) &&& (1431655765 : Int32))
  let x2 := (x1 &&& (858993459 : Int32)) + ((xsu x1 (2 : Int32)) &&& (858993459 : Int32))
  let x3 := (x2 + (xsu x2 (4 : Int32))) &&& (252645135 : Int32)
  let x4 := x3 + (xsu x3 (8 : Int32))
  let x5 := x4 + (xsu x4 (16 : Int32))
  x5 &&& (63 : Int32)
theorem s_In_bitCount {p0 : Int32} {post : Int32 → SI → SJ → Prop} {I : SI} {J : SJ} (h : post (bcF p0) I J) : p_In_bitCountZ p0 post I J := by
  intro x1 e1 x2 e2 x3 e3 x4 e4 x5 e5
  subst e1; subst e2; subst e3; subst e4; subst e5
  exact h
theorem sumF : ∀ j, j < 32 → ((bcF ((nI j) &&& (25 : Int32))) &&& (1 : Int32)) ||| (xsl ((bcF ((nI j) &&& (23 : Int32))) &&& (1 : Int32)) (1 : Int32)) = nI (g0 j + 2 * g1 j) := by decide +kernel
section CO
variable {p : Program} {l : Launch} {e : Env} {R : Room} {s : State} {m : MethodId} {args : Array Value} {below : List Frame} {meth : Method} {c : Code} {H : Heap} {locs : List Loc} {cells slots : Nat} {Q : State → Prop}
variable {cc : ByteArray} {pc nL : Nat} {ls : Array Slot} {rest st0 : List Value} {D : va_G} {κ : Nat → ClassId} {z : Nat} {A : Nat → Prop} {own : String} {index : Nat} {ws : va_W}
theorem y_bits {x : Int32} (C : cC p m c cc nL s args own D κ z A) (hP : va_P D clA ws H) (hD : va_D A ws) (hS : va_S A s.heap H locs) (isR : List Nat) (hR : isR.map (fun i => ws[i]?) = ws.map some) (hn : va_nd isR = true)
    (hl : Cond.methodLink own index y_In_bitCount ∈ WS) (hRm : 0 + 1 ≤ R.frames ∧ 8 + (1 + 11) + 0 ≤ R.locals) (hsize : ls.size = nL) (hstack : st0 = .int x :: rest) (hW : (rest.map fun v => v.category).sum ≤ 8) (hdg : decode cc pc = .ok (.invokestatic index, 3)) (hf : cells + 0 ≤ R.cells ∧ slots + 0 ≤ R.slots)
    (kk : ∀ (H1 : Heap) (locs1 : List Loc), va_P D clA ws H1 → va_S A s.heap H1 locs1 → W p l e R s m args below meth c H1 locs1 cells slots Q (F0 m (pc + 3) ls (.int (bcF x) :: rest))) : W p l e R s m args below meth c H locs cells slots Q (F0 m pc ls st0) := by
  let Θ : Nat → Nat := fun _ => 0
  let I : SI := fun _ _ => 0
  let J : SJ := fun _ _ => 0
  have C' := C
  obtain ⟨C1, hK, hN, hG, hO, hz, hA, hAz⟩ := C
  have hP' : va_P D clA (xw 0 Θ (eZ Θ κ) I J) H := fun k q hk => by cases hk
  have hD' : va_D A (xw 0 Θ (eZ Θ κ) I J) := ⟨fun i j p q hi => (by cases hi), fun k q hk => (by cases hk)⟩
  have hΘ : xJ 0 Θ := fun i j hi => by omega
  have hF : ∀ q, xA 0 Θ H.size q → A q := fun q hq => by
    rcases hq with ⟨o, ho, _⟩ | hq
    · omega
    · exact hA q (Nat.le_trans hS.1 hq)
  have ct := c_In_bitCountZ l D κ hΘ H.size x I J (fun r _ _ => r = bcF x) (s_In_bitCount rfl)
  refine va_calli (cells := cells) (slots := slots) (va_runS (As := [.int x]) (rest := rest) C1 ct ⟨xCB2 C1.2.2.2.2 q_In_bitCount rfl rfl hRm hl, C1.2.2.2.2 _ k_38⟩ ⟨xPR_blind, y_pre C' hP' hD' hS⟩ rfl rfl hsize hstack (lv_room hW) hdg hf) hS (fun q _ h => hF q h) hF (fun r u t H1 locs1 ht hvm hp hB hz1 hk1 hS1 => ?_)
  obtain ⟨hP2, _⟩ := va_join (wr := ws) (w1 := []) (wc := []) hP hD [] isR rfl hR hn (fun i _ h => by cases h) (fun q h1 h2 => hk1 q h1 (fun h3 => h2 (Or.inr (by
    rcases h3 with ⟨o, ho, _⟩ | h3
    · omega
    · exact h3)))) (fun q hq => by
    rcases hq with ⟨k, e, hq⟩ | hq
    · cases hq
    · exact hA q (Nat.le_trans hS.1 hq)) (fun k q hk => by cases hk) ⟨fun i j p q hi => (by cases hi), fun k q hk => (by cases hk)⟩
  rw [List.append_nil] at hP2
  have hr : r = bcF x := hp
  subst hr
  exact kk H1 locs1 hP2 hS1
theorem y_row {x : Int32} (C : cC p m c cc nL s args own D κ z A) (hP : va_P D clA ws H) (hD : va_D A ws) (hS : va_S A s.heap H locs) (isR : List Nat) (hR : isR.map (fun i => ws[i]?) = ws.map some) (hn : va_nd isR = true)
    (hl : Cond.methodLink own index y_Co_colourRow ∈ WS) (hRm : 0 + 1 ≤ R.frames ∧ 8 + (6 + 11) + 0 ≤ R.locals) (hsize : ls.size = nL) (hstack : st0 = .int x :: rest) (hW : (rest.map fun v => v.category).sum ≤ 8) (hdg : decode cc pc = .ok (.invokestatic index, 3)) (hf : cells + 0 ≤ R.cells ∧ slots + 0 ≤ R.slots)
    (kk : ∀ (H1 : Heap) (locs1 : List Loc), va_P D clA ws H1 → va_S A s.heap H1 locs1 → W p l e R s m args below meth c H1 locs1 cells slots Q (F0 m (pc + 3) ls (.long (trn x) :: rest))) : W p l e R s m args below meth c H locs cells slots Q (F0 m pc ls st0) := by
  let Θ : Nat → Nat := fun _ => 0
  let I : SI := fun _ _ => 0
  let J : SJ := fun _ _ => 0
  have C' := C
  obtain ⟨C1, hK, hN, hG, hO, hz, hA, hAz⟩ := C
  have hP' : va_P D clA (xw 0 Θ (eZ Θ κ) I J) H := fun k q hk => by cases hk
  have hD' : va_D A (xw 0 Θ (eZ Θ κ) I J) := ⟨fun i j p q hi => (by cases hi), fun k q hk => (by cases hk)⟩
  have hΘ : xJ 0 Θ := fun i j hi => by omega
  have hF : ∀ q, xA 0 Θ H.size q → A q := fun q hq => by
    rcases hq with ⟨o, ho, _⟩ | hq
    · omega
    · exact hA q (Nat.le_trans hS.1 hq)
  have ct := c_Co_colourRowZ l D κ hΘ H.size x I J (fun r _ _ => r = trn x) (s_Co_colourRow rfl)
  refine va_calll (cells := cells) (slots := slots) (va_runS (As := [.int x]) (rest := rest) C1 ct ⟨xCB2 C1.2.2.2.2 q_Co_colourRow rfl rfl hRm hl, C1.2.2.2.2 _ k_35⟩ ⟨xPR_blind, y_pre C' hP' hD' hS⟩ rfl rfl hsize hstack (lv_room hW) hdg hf) hS (fun q _ h => hF q h) hF (fun r u t H1 locs1 ht hvm hp hB hz1 hk1 hS1 => ?_)
  obtain ⟨hP2, _⟩ := va_join (wr := ws) (w1 := []) (wc := []) hP hD [] isR rfl hR hn (fun i _ h => by cases h) (fun q h1 h2 => hk1 q h1 (fun h3 => h2 (Or.inr (by
    rcases h3 with ⟨o, ho, _⟩ | h3
    · omega
    · exact h3)))) (fun q hq => by
    rcases hq with ⟨k, e, hq⟩ | hq
    · cases hq
    · exact hA q (Nat.le_trans hS.1 hq)) (fun k q hk => by cases hk) ⟨fun i j p q hi => (by cases hi), fun k q hk => (by cases hk)⟩
  rw [List.append_nil] at hP2
  have hr : r = trn x := hp
  subst hr
  exact kk H1 locs1 hP2 hS1
abbrev W1 (κ : Nat → ClassId) (h0 q : Nat) (f : Nat → Int64) : va_W := [(h0, .inr (1, [.ref q, .null, .null, .null])), (q, .inl (κ 1, 8, .inr (.inl f)))]
abbrev W2 (κ : Nat → ClassId) (h0 q q2 : Nat) (g : Nat → Int64) (f : Nat → Int32) : va_W := [(h0, .inr (1, [.ref q, .ref q2, .null, .null])), (q, .inl (κ 1, 8, .inr (.inl g))), (q2, .inl (κ 0, 32, .inl f))]
theorem coL_1 {h0 q : Nat} (C : cC p m c b_Co_init 2 s args R_Co D κ z A) (hRm : 0 + 1 ≤ R.frames ∧ 8 + (6 + 11) + 0 ≤ R.locals) (hf : cells + 0 ≤ R.cells ∧ slots + 0 ≤ R.slots)
    (next : ∀ (f : Nat → Int64) (H : Heap) (locs : List Loc) (ls : Array Slot), (∀ i, i < 8 → f i = trn (nI i)) → va_P D clA (W1 κ h0 q f) H → va_D A (W1 κ h0 q f) → va_S A s.heap H locs → lv_has ls 2 [(1, .int (nI 8)), (0, .ref h0)] → W p l e R s m args below meth c H locs cells slots Q (F0 m 36 ls [])) (k j : Nat) (hj : j + k = 8) (f : Nat → Int64) (H : Heap) (locs : List Loc) (ls : Array Slot) (hi : ∀ i, i < j → f i = trn (nI i)) (hP : va_P D clA (W1 κ h0 q f) H) (hD : va_D A (W1 κ h0 q f)) (hS : va_S A s.heap H locs) (hl : lv_has ls 2 [(1, .int (nI j)), (0, .ref h0)]) : W p l e R s m args below meth c H locs cells slots Q (F0 m 14 ls []) := by
  induction k generalizing j f H locs ls with
  | zero =>
    have e : j = 8 := by omega
    subst e
    obtain ⟨⟨hx, hb, hml, hown, hts⟩, hK, hN, hG, hO, hz, hA, hAz⟩ := C
    refine lv_iload_n hx hb d_Co_init_14 rfl (lv_at hl 0 rfl) ?_
    refine lv_bipush (v := (8 : Int32)) hx hb d_Co_init_15 (by decide) ?_
    refine lv_icmp_ge hx hb d_Co_init_17 (tgt := 36) rfl (fun _ => ?_) (fun hc => absurd (by decide) hc)
    exact next f H locs ls hi hP hD hS hl
  | succ k ih =>
    have C' := C
    obtain ⟨⟨hx, hb, hml, hown, hts⟩, hK, hN, hG, hO, hz, hA, hAz⟩ := C
    refine lv_iload_n hx hb d_Co_init_14 rfl (lv_at hl 0 rfl) ?_
    refine lv_bipush (v := (8 : Int32)) hx hb d_Co_init_15 (by decide) ?_
    refine lv_icmp_ge hx hb d_Co_init_17 (tgt := 36) rfl (fun hc => absurd hc (nI_ge (b := 8) (by omega) (by decide))) (fun _ => ?_)
    refine lv_aload_n hx hb d_Co_init_20 rfl (lv_at hl 1 rfl) ?_
    refine va_get (D := D) (ci := 1) (C := R_Co) (T := F_Co) (N := 4) (v := .ref q) hx hb hts in_Co hown hK hP 0 rfl rfl 0 (by decide) (hts _ k_43) (fun _ h9 => h9) rfl d_Co_init_21 ?_
    refine lv_iload_n hx hb d_Co_init_24 rfl (lv_at hl 0 rfl) ?_
    refine lv_iload_n hx hb d_Co_init_25 rfl (lv_at hl 0 rfl) ?_
    refine y_row (x := nI j) (rest := [.int (nI j), .ref q]) C' hP hD hS [0, 1] rfl (by decide) k_34 hRm hl.1 rfl (Nat.le_of_ble_eq_true rfl) d_Co_init_26 hf (fun H locs hP hS => ?_)
    refine va_last hx hb hK hP hD hS 1 1 rfl rfl (i := nI j) (vp_in_nI (by omega) (by decide)) d_Co_init_29 (fun H locs hP hD hS => ?_)
    rw [nI_clamp (by omega)] at hP hD
    have hP : va_P D clA (W1 κ h0 q (vp_updL f j (trn (nI j)))) H := hP
    have hD : va_D A (W1 κ h0 q (vp_updL f j (trn (nI j)))) := hD
    refine lv_iinc (k := 0) (v := nI (j + 1)) hx hb d_Co_init_30 hl rfl (nI_1 j) (Nat.le_of_ble_eq_true rfl) (lv' := [(1, .int (nI (j + 1))), (0, .ref h0)]) rfl (fun ls hl => ?_)
    refine lv_goto hx hb d_Co_init_33 (tgt := 14) rfl ?_
    refine ih (j + 1) (by omega) _ H locs ls (fun i h => ?_) hP hD hS hl
    by_cases e : i = j
    · subst e
      exact pk_uLs
    · rw [pk_uLn e]
      exact hi i (by omega)
theorem coL_2 {h0 q q2 : Nat} {g : Nat → Int64} (C : cC p m c b_Co_init 2 s args R_Co D κ z A) (hRm : 0 + 1 ≤ R.frames ∧ 8 + (1 + 11) + 0 ≤ R.locals) (hf : cells + 0 ≤ R.cells ∧ slots + 0 ≤ R.slots)
    (next : ∀ (f : Nat → Int32) (H : Heap) (locs : List Loc) (ls : Array Slot), (∀ i, i < 32 → f i = nI (g0 i + 2 * g1 i)) → va_P D clA (W2 κ h0 q q2 g f) H → va_D A (W2 κ h0 q q2 g f) → va_S A s.heap H locs → lv_has ls 2 [(1, .int (nI 32)), (0, .ref h0)] → W p l e R s m args below meth c H locs cells slots Q (F0 m 85 ls [])) (k j : Nat) (hj : j + k = 32) (f : Nat → Int32) (H : Heap) (locs : List Loc) (ls : Array Slot) (hi : ∀ i, i < j → f i = nI (g0 i + 2 * g1 i)) (hP : va_P D clA (W2 κ h0 q q2 g f) H) (hD : va_D A (W2 κ h0 q q2 g f)) (hS : va_S A s.heap H locs) (hl : lv_has ls 2 [(1, .int (nI j)), (0, .ref h0)]) : W p l e R s m args below meth c H locs cells slots Q (F0 m 46 ls []) := by
  induction k generalizing j f H locs ls with
  | zero =>
    have e : j = 32 := by omega
    subst e
    obtain ⟨⟨hx, hb, hml, hown, hts⟩, hK, hN, hG, hO, hz, hA, hAz⟩ := C
    refine lv_iload_n hx hb d_Co_init_46 rfl (lv_at hl 0 rfl) ?_
    refine lv_bipush (v := (32 : Int32)) hx hb d_Co_init_47 (by decide) ?_
    refine lv_icmp_ge hx hb d_Co_init_49 (tgt := 85) rfl (fun _ => ?_) (fun hc => absurd (by decide) hc)
    exact next f H locs ls hi hP hD hS hl
  | succ k ih =>
    have C' := C
    obtain ⟨⟨hx, hb, hml, hown, hts⟩, hK, hN, hG, hO, hz, hA, hAz⟩ := C
    refine lv_iload_n hx hb d_Co_init_46 rfl (lv_at hl 0 rfl) ?_
    refine lv_bipush (v := (32 : Int32)) hx hb d_Co_init_47 (by decide) ?_
    refine lv_icmp_ge hx hb d_Co_init_49 (tgt := 85) rfl (fun hc => absurd hc (nI_ge (b := 32) (by omega) (by decide))) (fun _ => ?_)
    refine lv_aload_n hx hb d_Co_init_52 rfl (lv_at hl 1 rfl) ?_
    refine va_get (D := D) (ci := 1) (C := R_Co) (T := F_Co) (N := 4) (v := .ref q2) hx hb hts in_Co hown hK hP 0 rfl rfl 1 (by decide) (hts _ k_44) (fun _ h9 => h9) rfl d_Co_init_53 ?_
    refine lv_iload_n hx hb d_Co_init_56 rfl (lv_at hl 0 rfl) ?_
    refine lv_iload_n hx hb d_Co_init_57 rfl (lv_at hl 0 rfl) ?_
    refine lv_bipush (v := (25 : Int32)) hx hb d_Co_init_58 (by decide) ?_
    refine lv_iand hx hb d_Co_init_60 ?_
    refine y_bits (x := nI j &&& (25 : Int32)) (rest := [.int (nI j), .ref q2]) C' hP hD hS [0, 1, 2] rfl (by decide) k_37 hRm hl.1 rfl (Nat.le_of_ble_eq_true rfl) d_Co_init_61 hf (fun H locs hP hS => ?_)
    refine lv_iconst (v := (1 : Int32)) hx hb d_Co_init_64 (by decide) ?_
    refine lv_iand hx hb d_Co_init_65 ?_
    refine lv_iload_n hx hb d_Co_init_66 rfl (lv_at hl 0 rfl) ?_
    refine lv_bipush (v := (23 : Int32)) hx hb d_Co_init_67 (by decide) ?_
    refine lv_iand hx hb d_Co_init_69 ?_
    refine y_bits (x := nI j &&& (23 : Int32)) (rest := [.int (bcF (nI j &&& (25 : Int32)) &&& (1 : Int32)), .int (nI j), .ref q2]) C' hP hD hS [0, 1, 2] rfl (by decide) k_37 hRm hl.1 rfl (Nat.le_of_ble_eq_true rfl) d_Co_init_70 hf (fun H locs hP hS => ?_)
    refine lv_iconst (v := (1 : Int32)) hx hb d_Co_init_73 (by decide) ?_
    refine lv_iand hx hb d_Co_init_74 ?_
    refine lv_iconst (v := (1 : Int32)) hx hb d_Co_init_75 (by decide) ?_
    refine lv_ishl hx hb d_Co_init_76 ?_
    refine lv_ior hx hb d_Co_init_77 ?_
    refine lv_topi (fun v ev => ?_)
    have ev : v = nI (g0 j + 2 * g1 j) := ev.trans (sumF j (by omega))
    subst ev
    refine va_iast hx hb hK hP hD hS 2 0 rfl rfl (i := nI j) (vp_in_nI (by omega) (by decide)) d_Co_init_78 (fun H locs hP hD hS => ?_)
    rw [nI_clamp (by omega)] at hP hD
    have hP : va_P D clA (W2 κ h0 q q2 g (upd f j (nI (g0 j + 2 * g1 j)))) H := hP
    have hD : va_D A (W2 κ h0 q q2 g (upd f j (nI (g0 j + 2 * g1 j)))) := hD
    refine lv_iinc (k := 0) (v := nI (j + 1)) hx hb d_Co_init_79 hl rfl (nI_1 j) (Nat.le_of_ble_eq_true rfl) (lv' := [(1, .int (nI (j + 1))), (0, .ref h0)]) rfl (fun ls hl => ?_)
    refine lv_goto hx hb d_Co_init_82 (tgt := 46) rfl ?_
    refine ih (j + 1) (by omega) _ H locs ls (fun i h => ?_) hP hD hS hl
    by_cases e : i = j
    · subst e
      exact pk_us
    · rw [pk_un e]
      exact hi i (by omega)
end CO
abbrev rm_Co_init : Room := { frames := 1, cells := 4, slots := 72, locals := 25 }
set_option maxHeartbeats 4000000 in
set_option maxRecDepth 100000 in
theorem c_Co_init (l : Launch) (D : va_G) (κ : Nat → ClassId) (z sz h0 : Nat) : Met l y_Co_init WS rm_Co_init (va_Pc [.ref h0] (cPre D κ z sz [(h0, .inr (1, [.null, .null, .null, .null]))])) (cQ2 D [(h0, .inr (1, [.null, .null, .null, .null]))] sz (fun I J => (∀ j, j < 32 → I 0 j = nI (g0 j + 2 * g1 j)) ∧ ∀ c, c < 8 → J 0 c = trn (nI c)) (fun Θ I J => [(h0, .inr (1, [.ref (Θ 0), .ref (Θ 1), .ref (Θ 2), .ref (Θ 3)])), ((Θ 0), .inl (κ 1, 8, .inr (.inl (J 0)))), ((Θ 1), .inl (κ 0, 32, .inl (I 0))), ((Θ 2), .inl (κ 1, 16, .inr (.inl (fun _ => 0)))), ((Θ 3), .inl (κ 1, 16, .inr (.inl (fun _ => 0))))])) 4 72 (va_A [(h0, .inr (1, [.null, .null, .null, .null]))] sz) := by
  refine xMet (cc := b_Co_init) (maxL := 2) (ret := none) (by decide) q_Co_init.1 ?_
  intro p e s m args below meth c s₁ B hml hv
  obtain ⟨hargs, hsz, hz, hP, hK, hD0, hN, hG, hO⟩ := hv
  have hx := B.exec
  have hb := B.bytes
  have hr := B.returns
  have hlocks := B.notSynchronized
  have hts := atoms_spec (ws := WS) B.pre
  have hown : s.vm.findClass R_Co = some m.cls := findClass_of_methodNamed B.named
  have hin : meth.name = "<init>" := (name_of_methodNamed B.named B.method).1
  subst hsz
  unfold cQ2
  have hD := hD0.self (sz := s.heap.size)
  have hAz : ∀ q, va_A [(h0, .inr (1, [.null, .null, .null, .null]))] s.heap.size q → z ≤ q := fun q h => by
    rcases h with ⟨k, e, h⟩ | h
    · exact hD0.2 k _ h
    · exact Nat.le_trans hz h
  generalize hAe : va_A [(h0, .inr (1, [.null, .null, .null, .null]))] s.heap.size = A at hD hAz ⊢
  have hA : ∀ q : Nat, s.heap.size ≤ q → A q := fun q h => by rw [← hAe]; exact Or.inr h
  have hS : va_S A s.heap s.heap [] := va_S.rf
  have C : cC p m c b_Co_init 2 s args R_Co D κ z A := ⟨⟨hx, hb, hml, hown, hts⟩, hK, hN, hG, hO, hz, hA, hAz⟩
  have hE := lg_entry_eq m [.ref h0] 2
  rw [← hargs] at hE
  rw [hE]
  have hl := lv_entry [.ref h0] (n := 2) (Nat.le_of_ble_eq_true rfl)
  generalize (lg_sl [.ref h0] ++ List.replicate (2 - (lg_sl [.ref h0]).length) Slot.unset).toArray = ls at hl ⊢
  have hl : lv_has ls 2 [(0, .ref h0)] := hl
  refine lv_aload_n hx hb d_Co_init_0 rfl (lv_at hl 0 rfl) ?_
  refine W.objInit hx hb hown (hts _ k_33) (hts _ k_26) (hts _ k_27) rfl (by rw [hml]; exact hl.1) rfl d_Co_init_1 (Nat.le_of_ble_eq_true rfl) (Nat.le_of_ble_eq_true rfl) ?_
  refine W.eq (g2 := F0 m 4 ls []) rfl ?_
  refine lv_aload_n hx hb d_Co_init_4 rfl (lv_at hl 0 rfl) ?_
  refine lv_bipush (v := (8 : Int32)) hx hb d_Co_init_5 (by decide) ?_
  refine y_newJ hx hb (hts _ k_56) 1 hK rfl hP hD hS hA (k := (8 : Int32)) (N := 8) (by decide) (by decide) (by decide) (Nat.le_of_ble_eq_true rfl) (Nat.le_of_ble_eq_true rfl) d_Co_init_7 (fun q7 H hP hD hS => ?_)
  have hP : va_P D clA [(h0, .inr (1, [.null, .null, .null, .null])), (q7, .inl (κ 1, 8, .inr (.inl (fun _ => 0))))] H := hP
  have hD : va_D A [(h0, .inr (1, [.null, .null, .null, .null])), (q7, .inl (κ 1, 8, .inr (.inl (fun _ => 0))))] := hD
  refine va_putF (D := D) (ci := 1) (v := .ref q7) (C := R_Co) (T := F_Co) (N := 4) hx hb hts in_Co t_Co t_Co_ok n_Co hown hK hP hD hS 0 rfl rfl 0 (by decide) (hts _ k_43) (fun _ h9 => h9) rfl hin rfl (t_Co_ok 0 (by decide)) rfl rfl (Nat.le_of_ble_eq_true rfl) d_Co_init_9 (fun H locs hP hD hS => ?_)
  have hP : va_P D clA [(h0, .inr (1, [.ref q7, .null, .null, .null])), (q7, .inl (κ 1, 8, .inr (.inl (fun _ => 0))))] H := hP
  have hD : va_D A [(h0, .inr (1, [.ref q7, .null, .null, .null])), (q7, .inl (κ 1, 8, .inr (.inl (fun _ => 0))))] := hD
  refine lv_iconst (v := (0 : Int32)) hx hb d_Co_init_12 (by decide) ?_
  refine lv_istore_n hx hb d_Co_init_13 rfl hl (Nat.le_of_ble_eq_true rfl) (lv' := [(1, .int (0 : Int32)), (0, .ref h0)]) rfl (fun ls hl => ?_)
  refine coL_1 (q := q7) C ⟨(Nat.le_of_ble_eq_true rfl), (Nat.le_of_ble_eq_true rfl)⟩ ⟨(Nat.le_of_ble_eq_true rfl), (Nat.le_of_ble_eq_true rfl)⟩ (fun f1 H locs ls hf1 hP hD hS hl => ?_) 8 0 (by omega) _ H _ ls (fun i hi => absurd hi (by omega)) hP hD hS hl
  refine lv_aload_n hx hb d_Co_init_36 rfl (lv_at hl 1 rfl) ?_
  refine lv_bipush (v := (32 : Int32)) hx hb d_Co_init_37 (by decide) ?_
  refine y_newI hx hb (hts _ k_57) 0 hK rfl hP hD hS hA (k := (32 : Int32)) (N := 32) (by decide) (by decide) (by decide) (Nat.le_of_ble_eq_true rfl) (Nat.le_of_ble_eq_true rfl) d_Co_init_39 (fun q39 H hP hD hS => ?_)
  have hP : va_P D clA [(h0, .inr (1, [.ref q7, .null, .null, .null])), (q7, .inl (κ 1, 8, .inr (.inl f1))), (q39, .inl (κ 0, 32, .inl (fun _ => 0)))] H := hP
  have hD : va_D A [(h0, .inr (1, [.ref q7, .null, .null, .null])), (q7, .inl (κ 1, 8, .inr (.inl f1))), (q39, .inl (κ 0, 32, .inl (fun _ => 0)))] := hD
  refine va_putF (D := D) (ci := 1) (v := .ref q39) (C := R_Co) (T := F_Co) (N := 4) hx hb hts in_Co t_Co t_Co_ok n_Co hown hK hP hD hS 0 rfl rfl 1 (by decide) (hts _ k_44) (fun _ h9 => h9) rfl hin rfl (t_Co_ok 1 (by decide)) rfl rfl (Nat.le_of_ble_eq_true rfl) d_Co_init_41 (fun H locs hP hD hS => ?_)
  have hP : va_P D clA [(h0, .inr (1, [.ref q7, .ref q39, .null, .null])), (q7, .inl (κ 1, 8, .inr (.inl f1))), (q39, .inl (κ 0, 32, .inl (fun _ => 0)))] H := hP
  have hD : va_D A [(h0, .inr (1, [.ref q7, .ref q39, .null, .null])), (q7, .inl (κ 1, 8, .inr (.inl f1))), (q39, .inl (κ 0, 32, .inl (fun _ => 0)))] := hD
  refine lv_iconst (v := (0 : Int32)) hx hb d_Co_init_44 (by decide) ?_
  refine lv_istore_n hx hb d_Co_init_45 rfl hl (Nat.le_of_ble_eq_true rfl) (lv' := [(1, .int (0 : Int32)), (0, .ref h0)]) rfl (fun ls hl => ?_)
  refine coL_2 (q := q7) (q2 := q39) C ⟨(Nat.le_of_ble_eq_true rfl), (Nat.le_of_ble_eq_true rfl)⟩ ⟨(Nat.le_of_ble_eq_true rfl), (Nat.le_of_ble_eq_true rfl)⟩ (fun f2 H locs ls hf2 hP hD hS hl => ?_) 32 0 (by omega) _ H _ ls (fun i hi => absurd hi (by omega)) hP hD hS hl
  refine lv_aload_n hx hb d_Co_init_85 rfl (lv_at hl 1 rfl) ?_
  refine lv_bipush (v := (16 : Int32)) hx hb d_Co_init_86 (by decide) ?_
  refine y_newJ hx hb (hts _ k_56) 1 hK rfl hP hD hS hA (k := (16 : Int32)) (N := 16) (by decide) (by decide) (by decide) (Nat.le_of_ble_eq_true rfl) (Nat.le_of_ble_eq_true rfl) d_Co_init_88 (fun q88 H hP hD hS => ?_)
  have hP : va_P D clA [(h0, .inr (1, [.ref q7, .ref q39, .null, .null])), (q7, .inl (κ 1, 8, .inr (.inl f1))), (q39, .inl (κ 0, 32, .inl f2)), (q88, .inl (κ 1, 16, .inr (.inl (fun _ => 0))))] H := hP
  have hD : va_D A [(h0, .inr (1, [.ref q7, .ref q39, .null, .null])), (q7, .inl (κ 1, 8, .inr (.inl f1))), (q39, .inl (κ 0, 32, .inl f2)), (q88, .inl (κ 1, 16, .inr (.inl (fun _ => 0))))] := hD
  refine va_putF (D := D) (ci := 1) (v := .ref q88) (C := R_Co) (T := F_Co) (N := 4) hx hb hts in_Co t_Co t_Co_ok n_Co hown hK hP hD hS 0 rfl rfl 2 (by decide) (hts _ k_45) (fun _ h9 => h9) rfl hin rfl (t_Co_ok 2 (by decide)) rfl rfl (Nat.le_of_ble_eq_true rfl) d_Co_init_90 (fun H locs hP hD hS => ?_)
  have hP : va_P D clA [(h0, .inr (1, [.ref q7, .ref q39, .ref q88, .null])), (q7, .inl (κ 1, 8, .inr (.inl f1))), (q39, .inl (κ 0, 32, .inl f2)), (q88, .inl (κ 1, 16, .inr (.inl (fun _ => 0))))] H := hP
  have hD : va_D A [(h0, .inr (1, [.ref q7, .ref q39, .ref q88, .null])), (q7, .inl (κ 1, 8, .inr (.inl f1))), (q39, .inl (κ 0, 32, .inl f2)), (q88, .inl (κ 1, 16, .inr (.inl (fun _ => 0))))] := hD
  refine lv_aload_n hx hb d_Co_init_93 rfl (lv_at hl 1 rfl) ?_
  refine lv_bipush (v := (16 : Int32)) hx hb d_Co_init_94 (by decide) ?_
  refine y_newJ hx hb (hts _ k_56) 1 hK rfl hP hD hS hA (k := (16 : Int32)) (N := 16) (by decide) (by decide) (by decide) (Nat.le_of_ble_eq_true rfl) (Nat.le_of_ble_eq_true rfl) d_Co_init_96 (fun q96 H hP hD hS => ?_)
  have hP : va_P D clA [(h0, .inr (1, [.ref q7, .ref q39, .ref q88, .null])), (q7, .inl (κ 1, 8, .inr (.inl f1))), (q39, .inl (κ 0, 32, .inl f2)), (q88, .inl (κ 1, 16, .inr (.inl (fun _ => 0)))), (q96, .inl (κ 1, 16, .inr (.inl (fun _ => 0))))] H := hP
  have hD : va_D A [(h0, .inr (1, [.ref q7, .ref q39, .ref q88, .null])), (q7, .inl (κ 1, 8, .inr (.inl f1))), (q39, .inl (κ 0, 32, .inl f2)), (q88, .inl (κ 1, 16, .inr (.inl (fun _ => 0)))), (q96, .inl (κ 1, 16, .inr (.inl (fun _ => 0))))] := hD
  refine va_putF (D := D) (ci := 1) (v := .ref q96) (C := R_Co) (T := F_Co) (N := 4) hx hb hts in_Co t_Co t_Co_ok n_Co hown hK hP hD hS 0 rfl rfl 3 (by decide) (hts _ k_46) (fun _ h9 => h9) rfl hin rfl (t_Co_ok 3 (by decide)) rfl rfl (Nat.le_of_ble_eq_true rfl) d_Co_init_98 (fun H locs hP hD hS => ?_)
  have hP : va_P D clA [(h0, .inr (1, [.ref q7, .ref q39, .ref q88, .ref q96])), (q7, .inl (κ 1, 8, .inr (.inl f1))), (q39, .inl (κ 0, 32, .inl f2)), (q88, .inl (κ 1, 16, .inr (.inl (fun _ => 0)))), (q96, .inl (κ 1, 16, .inr (.inl (fun _ => 0))))] H := hP
  have hD : va_D A [(h0, .inr (1, [.ref q7, .ref q39, .ref q88, .ref q96])), (q7, .inl (κ 1, 8, .inr (.inl f1))), (q39, .inl (κ 0, 32, .inl f2)), (q88, .inl (κ 1, 16, .inr (.inl (fun _ => 0)))), (q96, .inl (κ 1, 16, .inr (.inl (fun _ => 0))))] := hD
  refine W.widen (k := 4) (n := 72) (by decide) (by decide) ?_
  exact W.vret hx hb hr (fun t ht hW => ⟨⟨(fun k => [q7, q39, q88, q96].getD k 0, fun _ => f2, fun _ => f1), rfl, ⟨hf2, hf1⟩, by rw [ht]; exact hP, hD⟩, hS.F ht⟩) hS.2.2 d_Co_init_101 hlocks
