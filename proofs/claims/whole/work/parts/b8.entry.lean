/-! the law from its entry -/
theorem k_20 : (Jvm.Cond.classLink "TrunkCellsLaw" (8 : Nat) "TrunkCells") ∈ WS := WS_of 20 (by decide +kernel) (by decide +kernel)
theorem k_22 : (Jvm.Cond.methodLink "TrunkCellsLaw" (56 : Nat) y_TC_init) ∈ WS := WS_of 22 (by decide +kernel) (by decide +kernel)
theorem k_23 : (Jvm.Cond.instanceMethod y_TC_init) ∈ WS := WS_of 23 (by decide +kernel) (by decide +kernel)
theorem k_759 : (Jvm.Cond.classLink "TrunkCellsLaw" (57 : Nat) "TrunkCellsModel") ∈ WS := WS_of 759 (by decide +kernel) (by decide +kernel)
theorem k_761 : (Jvm.Cond.methodLink "TrunkCellsLaw" (59 : Nat) y_Md_init) ∈ WS := WS_of 761 (by decide +kernel) (by decide +kernel)
theorem k_762 : (Jvm.Cond.instanceMethod y_Md_init) ∈ WS := WS_of 762 (by decide +kernel) (by decide +kernel)
abbrev mdF : List Value := [.int 0, .null, .null, .long 0, .int 0, .null, .null, .null, .null, .null, .null, .null, .null, .null, .null, .null, .null, .null, .null, .null, .null, .null, .null, .null, .null, .null, .null, .null, .null, .null, .null, .null, .null, .null, .null, .null, .int 0]
set_option maxHeartbeats 4000000 in
set_option maxRecDepth 100000 in
/-- from the entry, for every script of at most 2048 ints, the law comes to its end with true -/
theorem whole_start {p : Program} {e : Env} {s : State} {m : MethodId} {below : List Frame} {meth : Method} {c : Code} (l : Launch) (hfl : l.flags = pinnedFlags ++ [noTraceFlag]) {b L : Nat} {xs : Nat → Int32} (hL : L ≤ 2048) (C0 : lw_At p s m meth c b L xs) : W p l e room_1 s m #[Value.ref b] below meth c s.heap [] 0 0 (lw_Z below #[Value.ref b] s) (entryFrame m ([Value.ref b] : List Value).toArray 7) := by
  obtain ⟨hx, hb, hr, hml, hown, hts, hX, hbl, hlocks, hg⟩ := C0
  obtain ⟨D, κ, hK, hN, hG, hO, hT⟩ := st_all hts hg
  have htw : ∀ w ∈ WS, w.before #[Value.ref b] s = true := fun w hw => hts w (List.mem_filter.mp hw).1
  have hA : ∀ q, s.heap.size ≤ q → Aw s q := fun _ h => h
  have C : cC p m c code 7 s #[Value.ref b] R_Lw D κ s.heap.size (Aw s) := ⟨⟨hx, hb, hml, hown, htw⟩, hK, hN, hG, hO, Nat.le_refl _, hA, fun _ h => h⟩
  have C1 : lwC p l s m c b L xs D κ := ⟨C, hT, hfl, hX, hbl, hL⟩
  have hP : va_P D clA [] s.heap := fun k q h => by simp at h
  have hD : va_D (Aw s) [] := ⟨fun i j a b h => by simp at h, fun k a h => by simp at h⟩
  have hS : va_S (Aw s) s.heap s.heap [] := va_S.rf
  rw [lg_entry_eq m [.ref b] 7]
  have hl := lv_entry [.ref b] (n := 7) (Nat.le_of_ble_eq_true rfl)
  generalize (lg_sl [.ref b] ++ List.replicate (7 - (lg_sl [.ref b]).length) Slot.unset).toArray = ls at hl ⊢
  have hl : lv_has ls 7 [(0, .ref b)] := hl
  refine va_new (ci := 0) (fs := [.null, .null, .null, .null, .int 0]) (C := R_TC) (T := F_TC) (N := 5) hx hb htw in_TC t_TC t_TC_ok hown (htw _ k_20) (htw _ k_21) (htw _ k_1) hK hP hD hS hA rfl (fun j hj => by rcases (show j = 0 ∨ j = 1 ∨ j = 2 ∨ j = 3 ∨ j = 4 by omega) with rfl | rfl | rfl | rfl | rfl <;> rfl) (Nat.le_of_ble_eq_true rfl) (Nat.le_of_ble_eq_true rfl) d_law_0 (fun q0 H hP hD hS => ?_)
  refine lv_dup hx hb d_law_3 rfl ?_
  refine y_callIm (Xs := []) (Zs := []) (wc := [(q0, .inr (0, [.null, .null, .null, .null, .int 0]))]) (As := []) (rest := [.ref q0]) C hP hD hS (c_TC_init l D κ s.heap.size H.size q0) q_TC_init rfl k_23 k_22 rfl rfl ⟨(Nat.le_of_ble_eq_true rfl), (Nat.le_of_ble_eq_true rfl)⟩ rfl hl.1 rfl (Nat.le_of_ble_eq_true rfl) d_law_4 ⟨(Nat.le_of_ble_eq_true rfl), (Nat.le_of_ble_eq_true rfl)⟩ (fun Θ I J H locs hi hP hD hS => ?_)
  rw [List.nil_append, List.append_nil] at hP hD
  have e0 : q0 = th0 q0 Θ 0 := rfl
  generalize th0 q0 Θ = Θ at hP hD e0
  rw [e0]
  refine lv_astore_n hx hb d_law_7 rfl hl (Nat.le_of_ble_eq_true rfl) (lv' := [(1, .ref (Θ 0)), (0, .ref b)]) rfl (fun ls hl => ?_)
  refine va_new (ci := 7) (fs := mdF) (C := R_Md) (T := F_Md) (N := 37) hx hb htw in_Md t_Md t_Md_ok hown (htw _ k_759) (htw _ k_760) (htw _ k_10) hK hP hD hS hA rfl (fun j hj => by rcases (show j = 0 ∨ j = 1 ∨ j = 2 ∨ j = 3 ∨ j = 4 ∨ j = 5 ∨ j = 6 ∨ j = 7 ∨ j = 8 ∨ j = 9 ∨ j = 10 ∨ j = 11 ∨ j = 12 ∨ j = 13 ∨ j = 14 ∨ j = 15 ∨ j = 16 ∨ j = 17 ∨ j = 18 ∨ j = 19 ∨ j = 20 ∨ j = 21 ∨ j = 22 ∨ j = 23 ∨ j = 24 ∨ j = 25 ∨ j = 26 ∨ j = 27 ∨ j = 28 ∨ j = 29 ∨ j = 30 ∨ j = 31 ∨ j = 32 ∨ j = 33 ∨ j = 34 ∨ j = 35 ∨ j = 36 by omega) with rfl | rfl | rfl | rfl | rfl | rfl | rfl | rfl | rfl | rfl | rfl | rfl | rfl | rfl | rfl | rfl | rfl | rfl | rfl | rfl | rfl | rfl | rfl | rfl | rfl | rfl | rfl | rfl | rfl | rfl | rfl | rfl | rfl | rfl | rfl | rfl | rfl <;> rfl) (Nat.le_of_ble_eq_true rfl) (Nat.le_of_ble_eq_true rfl) d_law_8 (fun q1 H hP hD hS => ?_)
  refine lv_dup hx hb d_law_11 rfl ?_
  refine y_callIm (Xs := xw 52 Θ (eC Θ κ) I J) (Zs := []) (wc := [(q1, .inr (7, mdF))]) (As := []) (rest := [.ref q1]) C hP hD hS (c_Md_init l D κ s.heap.size H.size q1) q_Md_init rfl k_762 k_761 rfl rfl ⟨(Nat.le_of_ble_eq_true rfl), (Nat.le_of_ble_eq_true rfl)⟩ rfl hl.1 rfl (Nat.le_of_ble_eq_true rfl) d_law_12 ⟨(Nat.le_of_ble_eq_true rfl), (Nat.le_of_ble_eq_true rfl)⟩ (fun Φ A B H locs hj hP hD hS => ?_)
  rw [List.append_nil] at hP hD
  have e1 : q1 = th0 q1 Φ 0 := rfl
  generalize th0 q1 Φ = Φ at hP hD e1
  rw [e1]
  refine lv_astore_n hx hb d_law_15 rfl hl (Nat.le_of_ble_eq_true rfl) (lv' := [(2, .ref (Φ 0)), (1, .ref (Θ 0)), (0, .ref b)]) rfl (fun ls hl => ?_)
  refine lv_iconst (v := (1 : Int32)) hx hb d_law_16 (by decide) ?_
  refine y_newJ hx hb (htw _ k_56) 1 hK rfl hP hD hS hA (N := 1) (by decide) (by decide) (by decide) (Nat.le_of_ble_eq_true rfl) (Nat.le_of_ble_eq_true rfl) d_law_17 (fun ao H hP hD hS => ?_)
  rw [List.append_assoc] at hP hD
  obtain ⟨hP, hD⟩ := va_prm hP hD
  refine lv_astore_n hx hb d_law_19 rfl hl (Nat.le_of_ble_eq_true rfl) (lv' := [(3, .ref ao), (2, .ref (Φ 0)), (1, .ref (Θ 0)), (0, .ref b)]) rfl (fun ls hl => ?_)
  refine lv_iconst (v := nI 0) hx hb d_law_20 (by decide) ?_
  refine lv_istore hx hb d_law_21 hl (Nat.le_of_ble_eq_true rfl) (lv' := lwL b Θ Φ ao 0) rfl (fun ls hl => ?_)
  refine W.widen (k := 87) (n := 1449) (by decide) (by decide) ?_
  obtain ⟨i1, i2, i3, i4, i5, i6, i7, i8, i9, i10, i11⟩ := hi
  obtain ⟨j1, j2, j3, j4, j5, j6, j7⟩ := hj
  exact lw_loop C1 hr hlocks 512 0 87 1449 (by omega) (by omega) (by decide) (by decide) (fun _ => 0) I J A B _ _ ls (jInv_0 i1 i2 i3 i4 i5 i6 i7 i8 i9 i10 i11 j1 j3 j4 j5 j6 j7) hP hD hS hl
