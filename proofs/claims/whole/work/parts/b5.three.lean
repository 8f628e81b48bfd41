/-! the law's cases -/
theorem k_234 : (Jvm.Cond.methodLink "TrunkCellsLaw" (109 : Nat) y_TC_mobile) ∈ WS := WS_of 234 (by decide +kernel) (by decide +kernel)
theorem k_235 : (Jvm.Cond.instanceMethod y_TC_mobile) ∈ WS := WS_of 235 (by decide +kernel) (by decide +kernel)
theorem k_236 : (Jvm.Cond.selects "TrunkCells" y_TC_mobile y_TC_mobile) ∈ WS := WS_of 236 (by decide +kernel) (by decide +kernel)
theorem k_252 : (Jvm.Cond.methodLink "TrunkCellsLaw" (114 : Nat) y_TC_call) ∈ WS := WS_of 252 (by decide +kernel) (by decide +kernel)
theorem k_253 : (Jvm.Cond.instanceMethod y_TC_call) ∈ WS := WS_of 253 (by decide +kernel) (by decide +kernel)
theorem k_254 : (Jvm.Cond.selects "TrunkCells" y_TC_call y_TC_call) ∈ WS := WS_of 254 (by decide +kernel) (by decide +kernel)
theorem k_260 : (Jvm.Cond.methodLink "TrunkCellsLaw" (118 : Nat) y_TC_waiting) ∈ WS := WS_of 260 (by decide +kernel) (by decide +kernel)
theorem k_261 : (Jvm.Cond.instanceMethod y_TC_waiting) ∈ WS := WS_of 261 (by decide +kernel) (by decide +kernel)
theorem k_262 : (Jvm.Cond.selects "TrunkCells" y_TC_waiting y_TC_waiting) ∈ WS := WS_of 262 (by decide +kernel) (by decide +kernel)
theorem k_269 : (Jvm.Cond.methodLink "TrunkCellsLaw" (122 : Nat) y_TC_saying) ∈ WS := WS_of 269 (by decide +kernel) (by decide +kernel)
theorem k_270 : (Jvm.Cond.instanceMethod y_TC_saying) ∈ WS := WS_of 270 (by decide +kernel) (by decide +kernel)
theorem k_271 : (Jvm.Cond.selects "TrunkCells" y_TC_saying y_TC_saying) ∈ WS := WS_of 271 (by decide +kernel) (by decide +kernel)
theorem k_278 : (Jvm.Cond.methodLink "TrunkCellsLaw" (126 : Nat) y_TC_coded) ∈ WS := WS_of 278 (by decide +kernel) (by decide +kernel)
theorem k_279 : (Jvm.Cond.instanceMethod y_TC_coded) ∈ WS := WS_of 279 (by decide +kernel) (by decide +kernel)
theorem k_280 : (Jvm.Cond.selects "TrunkCells" y_TC_coded y_TC_coded) ∈ WS := WS_of 280 (by decide +kernel) (by decide +kernel)
theorem k_299 : (Jvm.Cond.methodLink "TrunkCellsLaw" (131 : Nat) y_TC_decoded) ∈ WS := WS_of 299 (by decide +kernel) (by decide +kernel)
theorem k_300 : (Jvm.Cond.instanceMethod y_TC_decoded) ∈ WS := WS_of 300 (by decide +kernel) (by decide +kernel)
theorem k_301 : (Jvm.Cond.selects "TrunkCells" y_TC_decoded y_TC_decoded) ∈ WS := WS_of 301 (by decide +kernel) (by decide +kernel)
theorem k_322 : (Jvm.Cond.methodLink "TrunkCellsLaw" (136 : Nat) y_TC_distance) ∈ WS := WS_of 322 (by decide +kernel) (by decide +kernel)
theorem k_323 : (Jvm.Cond.instanceMethod y_TC_distance) ∈ WS := WS_of 323 (by decide +kernel) (by decide +kernel)
theorem k_324 : (Jvm.Cond.selects "TrunkCells" y_TC_distance y_TC_distance) ∈ WS := WS_of 324 (by decide +kernel) (by decide +kernel)
theorem k_1041 : (Jvm.Cond.methodLink "TrunkCellsLaw" (113 : Nat) y_Md_mobile) ∈ WS := WS_of 1041 (by decide +kernel) (by decide +kernel)
theorem k_1042 : (Jvm.Cond.instanceMethod y_Md_mobile) ∈ WS := WS_of 1042 (by decide +kernel) (by decide +kernel)
theorem k_1043 : (Jvm.Cond.selects "TrunkCellsModel" y_Md_mobile y_Md_mobile) ∈ WS := WS_of 1043 (by decide +kernel) (by decide +kernel)
theorem k_1045 : (Jvm.Cond.methodLink "TrunkCellsLaw" (117 : Nat) y_Md_call) ∈ WS := WS_of 1045 (by decide +kernel) (by decide +kernel)
theorem k_1046 : (Jvm.Cond.instanceMethod y_Md_call) ∈ WS := WS_of 1046 (by decide +kernel) (by decide +kernel)
theorem k_1047 : (Jvm.Cond.selects "TrunkCellsModel" y_Md_call y_Md_call) ∈ WS := WS_of 1047 (by decide +kernel) (by decide +kernel)
theorem k_1049 : (Jvm.Cond.methodLink "TrunkCellsLaw" (121 : Nat) y_Md_waiting) ∈ WS := WS_of 1049 (by decide +kernel) (by decide +kernel)
theorem k_1050 : (Jvm.Cond.instanceMethod y_Md_waiting) ∈ WS := WS_of 1050 (by decide +kernel) (by decide +kernel)
theorem k_1051 : (Jvm.Cond.selects "TrunkCellsModel" y_Md_waiting y_Md_waiting) ∈ WS := WS_of 1051 (by decide +kernel) (by decide +kernel)
theorem k_1053 : (Jvm.Cond.methodLink "TrunkCellsLaw" (125 : Nat) y_Md_saying) ∈ WS := WS_of 1053 (by decide +kernel) (by decide +kernel)
theorem k_1054 : (Jvm.Cond.instanceMethod y_Md_saying) ∈ WS := WS_of 1054 (by decide +kernel) (by decide +kernel)
theorem k_1055 : (Jvm.Cond.selects "TrunkCellsModel" y_Md_saying y_Md_saying) ∈ WS := WS_of 1055 (by decide +kernel) (by decide +kernel)
theorem k_1057 : (Jvm.Cond.methodLink "TrunkCellsLaw" (130 : Nat) y_Md_coded) ∈ WS := WS_of 1057 (by decide +kernel) (by decide +kernel)
theorem k_1058 : (Jvm.Cond.instanceMethod y_Md_coded) ∈ WS := WS_of 1058 (by decide +kernel) (by decide +kernel)
theorem k_1059 : (Jvm.Cond.selects "TrunkCellsModel" y_Md_coded y_Md_coded) ∈ WS := WS_of 1059 (by decide +kernel) (by decide +kernel)
theorem k_1062 : (Jvm.Cond.methodLink "TrunkCellsLaw" (135 : Nat) y_Md_decoded) ∈ WS := WS_of 1062 (by decide +kernel) (by decide +kernel)
theorem k_1063 : (Jvm.Cond.instanceMethod y_Md_decoded) ∈ WS := WS_of 1063 (by decide +kernel) (by decide +kernel)
theorem k_1064 : (Jvm.Cond.selects "TrunkCellsModel" y_Md_decoded y_Md_decoded) ∈ WS := WS_of 1064 (by decide +kernel) (by decide +kernel)
theorem k_1066 : (Jvm.Cond.methodLink "TrunkCellsLaw" (139 : Nat) y_Md_distance) ∈ WS := WS_of 1066 (by decide +kernel) (by decide +kernel)
theorem k_1067 : (Jvm.Cond.instanceMethod y_Md_distance) ∈ WS := WS_of 1067 (by decide +kernel) (by decide +kernel)
theorem k_1068 : (Jvm.Cond.selects "TrunkCellsModel" y_Md_distance y_Md_distance) ∈ WS := WS_of 1068 (by decide +kernel) (by decide +kernel)
section LB
variable {p : Program} {l : Launch} {e : Env} {s : State} {m : MethodId} {below : List Frame} {meth : Method} {c : Code} {b L : Nat} {xs : Nat → Int32} {D : va_G} {κ : Nat → ClassId}
set_option maxHeartbeats 4000000 in
set_option maxRecDepth 100000 in
theorem lw_mobile (C0 : lwC p l s m c b L xs D κ) {ao i cells slots : Nat} {Θ Φ : Nat → Nat} {Q : State → Prop} (hi : i + 4 ≤ L) (hc : cells + 1 ≤ room_1.cells ∧ slots + 6 ≤ room_1.slots) (nx : lwN p l e s m below meth c b D κ Θ Φ ao i (cells + 1) (slots + 6) Q 1080) : lwN p l e s m below meth c b D κ Θ Φ ao i cells slots Q 756 := by
  intro f I J A B H locs ls hI hP hD hS hl
  obtain ⟨C, hT, hfl, hX, hbl, hL⟩ := C0
  have hx := C.1.1
  have hb := C.1.2.1
  have hown := C.1.2.2.2.1
  have hts := C.1.2.2.2.2
  have hc1 : cells + 0 ≤ room_1.cells ∧ slots + 0 ≤ room_1.slots := ⟨by omega, by omega⟩
  have hc2 : (cells + 1) + 0 ≤ room_1.cells ∧ (slots + 6) + 0 ≤ room_1.slots := hc
  obtain ⟨v, I', J', A', B', g1, g2, i'⟩ := e_mobile hI (xs (i + 1)) (xs (i + 2))
  refine lv_aload_n hx hb d_law_756 rfl (lv_at hl 3 rfl) ?_
  refine lv_aload_n hx hb d_law_757 rfl (lv_at hl 4 rfl) ?_
  refine lv_iload hx hb d_law_758 (lv_at hl 0 rfl) ?_
  refine lv_iconst (v := (1 : Int32)) hx hb d_law_760 (by decide) ?_
  refine lv_iadd hx hb d_law_761 ?_
  refine y_sld (k := 1) hx hb hX hbl hS (by omega) hL (nI_add i 1) d_law_762 ?_
  refine lv_aload_n hx hb d_law_763 rfl (lv_at hl 4 rfl) ?_
  refine lv_iload hx hb d_law_764 (lv_at hl 0 rfl) ?_
  refine lv_iconst (v := (2 : Int32)) hx hb d_law_766 (by decide) ?_
  refine lv_iadd hx hb d_law_767 ?_
  refine y_sld (k := 2) hx hb hX hbl hS (by omega) hL (nI_add i 2) d_law_768 ?_
  refine y_Vi (n := 52) (Θ := Θ) (X := eC Θ κ) (Xs := xw 34 Φ (eM Φ κ) A B) (Zs := wO κ ao f) (As := [.int (xs (i + 1)), .int (xs (i + 2))]) (rest := []) C hP hD hS (Nat.le_of_ble_eq_true rfl) (eC_TC _ _) rfl (fun hΘ => c_TC_mobile l D κ hΘ H.size (xs (i + 1)) (xs (i + 2)) I J (fun r I1 J1 => r = v ∧ I1 = I' ∧ J1 = J') (g1 _ ⟨rfl, rfl, rfl⟩)) q_TC_mobile k_235 k_236 k_234 rfl rfl ⟨(Nat.le_of_ble_eq_true rfl), (Nat.le_of_ble_eq_true rfl)⟩ rfl hl.1 rfl (Nat.le_of_ble_eq_true rfl) d_law_769 hc1 (fun r I1 J1 H locs hp hP hD hS => ?_)
  obtain ⟨er, eI, eJ⟩ := hp
  rw [eI, eJ] at hP hD
  rw [er]
  refine lv_aload_n hx hb d_law_772 rfl (lv_at hl 2 rfl) ?_
  refine lv_aload_n hx hb d_law_773 rfl (lv_at hl 4 rfl) ?_
  refine lv_iload hx hb d_law_774 (lv_at hl 0 rfl) ?_
  refine lv_iconst (v := (1 : Int32)) hx hb d_law_776 (by decide) ?_
  refine lv_iadd hx hb d_law_777 ?_
  refine y_sld (k := 1) hx hb hX hbl hS (by omega) hL (nI_add i 1) d_law_778 ?_
  refine lv_aload_n hx hb d_law_779 rfl (lv_at hl 4 rfl) ?_
  refine lv_iload hx hb d_law_780 (lv_at hl 0 rfl) ?_
  refine lv_iconst (v := (2 : Int32)) hx hb d_law_782 (by decide) ?_
  refine lv_iadd hx hb d_law_783 ?_
  refine y_sld (k := 2) hx hb hX hbl hS (by omega) hL (nI_add i 2) d_law_784 ?_
  refine y_Vi (n := 34) (Θ := Φ) (X := eM Φ κ) (Xs := []) (Zs := xw 52 Θ (eC Θ κ) I' J' ++ wO κ ao f) (As := [.int (xs (i + 1)), .int (xs (i + 2))]) (rest := [.int v]) C hP hD hS (Nat.le_of_ble_eq_true rfl) (eM_Md _ _) rfl (fun hΘ => c_Md_mobile l D κ hΘ H.size (xs (i + 1)) (xs (i + 2)) A B (fun r2 A1 B1 => r2 = v ∧ A1 = A' ∧ B1 = B') (g2 _ ⟨rfl, rfl, rfl⟩)) q_Md_mobile k_1042 k_1043 k_1041 rfl rfl ⟨(Nat.le_of_ble_eq_true rfl), (Nat.le_of_ble_eq_true rfl)⟩ rfl hl.1 rfl (Nat.le_of_ble_eq_true rfl) d_law_785 hc1 (fun r2 A1 B1 H locs hp hP hD hS => ?_)
  obtain ⟨e0, e1, e2⟩ := hp
  rw [e1, e2] at hP hD
  rw [e0]
  refine lv_icmp_eq hx hb d_law_788 (tgt := 1080) rfl (fun _ => ?_) (fun hn => absurd rfl hn)
  refine W.widen (k := cells + 1) (n := slots + 6) (by omega) (by omega) ?_
  exact nx f I' J' A' B' _ _ ls i' hP hD hS (lv_sub hl [0, 1, 2, 3, 4] rfl)
set_option maxHeartbeats 4000000 in
set_option maxRecDepth 100000 in
theorem lw_call (C0 : lwC p l s m c b L xs D κ) {ao i cells slots : Nat} {Θ Φ : Nat → Nat} {Q : State → Prop} (hi : i + 4 ≤ L) (hc : cells + 1 ≤ room_1.cells ∧ slots + 6 ≤ room_1.slots) (nx : lwN p l e s m below meth c b D κ Θ Φ ao i (cells + 1) (slots + 6) Q 1080) : lwN p l e s m below meth c b D κ Θ Φ ao i cells slots Q 793 := by
  intro f I J A B H locs ls hI hP hD hS hl
  obtain ⟨C, hT, hfl, hX, hbl, hL⟩ := C0
  have hx := C.1.1
  have hb := C.1.2.1
  have hown := C.1.2.2.2.1
  have hts := C.1.2.2.2.2
  have hc1 : cells + 0 ≤ room_1.cells ∧ slots + 0 ≤ room_1.slots := ⟨by omega, by omega⟩
  have hc2 : (cells + 1) + 0 ≤ room_1.cells ∧ (slots + 6) + 0 ≤ room_1.slots := hc
  obtain ⟨v, I', J', A', B', g1, g2, i'⟩ := e_call hI (xs (i + 1)) (xs (i + 2))
  refine lv_aload_n hx hb d_law_793 rfl (lv_at hl 3 rfl) ?_
  refine lv_aload_n hx hb d_law_794 rfl (lv_at hl 4 rfl) ?_
  refine lv_iload hx hb d_law_795 (lv_at hl 0 rfl) ?_
  refine lv_iconst (v := (1 : Int32)) hx hb d_law_797 (by decide) ?_
  refine lv_iadd hx hb d_law_798 ?_
  refine y_sld (k := 1) hx hb hX hbl hS (by omega) hL (nI_add i 1) d_law_799 ?_
  refine lv_aload_n hx hb d_law_800 rfl (lv_at hl 4 rfl) ?_
  refine lv_iload hx hb d_law_801 (lv_at hl 0 rfl) ?_
  refine lv_iconst (v := (2 : Int32)) hx hb d_law_803 (by decide) ?_
  refine lv_iadd hx hb d_law_804 ?_
  refine y_sld (k := 2) hx hb hX hbl hS (by omega) hL (nI_add i 2) d_law_805 ?_
  refine y_Vi (n := 52) (Θ := Θ) (X := eC Θ κ) (Xs := xw 34 Φ (eM Φ κ) A B) (Zs := wO κ ao f) (As := [.int (xs (i + 1)), .int (xs (i + 2))]) (rest := []) C hP hD hS (Nat.le_of_ble_eq_true rfl) (eC_TC _ _) rfl (fun hΘ => c_TC_call l D κ hΘ H.size (xs (i + 1)) (xs (i + 2)) I J (fun r I1 J1 => r = v ∧ I1 = I' ∧ J1 = J') (g1 _ ⟨rfl, rfl, rfl⟩)) q_TC_call k_253 k_254 k_252 rfl rfl ⟨(Nat.le_of_ble_eq_true rfl), (Nat.le_of_ble_eq_true rfl)⟩ rfl hl.1 rfl (Nat.le_of_ble_eq_true rfl) d_law_806 hc1 (fun r I1 J1 H locs hp hP hD hS => ?_)
  obtain ⟨er, eI, eJ⟩ := hp
  rw [eI, eJ] at hP hD
  rw [er]
  refine lv_aload_n hx hb d_law_809 rfl (lv_at hl 2 rfl) ?_
  refine lv_aload_n hx hb d_law_810 rfl (lv_at hl 4 rfl) ?_
  refine lv_iload hx hb d_law_811 (lv_at hl 0 rfl) ?_
  refine lv_iconst (v := (1 : Int32)) hx hb d_law_813 (by decide) ?_
  refine lv_iadd hx hb d_law_814 ?_
  refine y_sld (k := 1) hx hb hX hbl hS (by omega) hL (nI_add i 1) d_law_815 ?_
  refine lv_aload_n hx hb d_law_816 rfl (lv_at hl 4 rfl) ?_
  refine lv_iload hx hb d_law_817 (lv_at hl 0 rfl) ?_
  refine lv_iconst (v := (2 : Int32)) hx hb d_law_819 (by decide) ?_
  refine lv_iadd hx hb d_law_820 ?_
  refine y_sld (k := 2) hx hb hX hbl hS (by omega) hL (nI_add i 2) d_law_821 ?_
  refine y_Vi (n := 34) (Θ := Φ) (X := eM Φ κ) (Xs := []) (Zs := xw 52 Θ (eC Θ κ) I' J' ++ wO κ ao f) (As := [.int (xs (i + 1)), .int (xs (i + 2))]) (rest := [.int v]) C hP hD hS (Nat.le_of_ble_eq_true rfl) (eM_Md _ _) rfl (fun hΘ => c_Md_call l D κ hΘ H.size (xs (i + 1)) (xs (i + 2)) A B (fun r2 A1 B1 => r2 = v ∧ A1 = A' ∧ B1 = B') (g2 _ ⟨rfl, rfl, rfl⟩)) q_Md_call k_1046 k_1047 k_1045 rfl rfl ⟨(Nat.le_of_ble_eq_true rfl), (Nat.le_of_ble_eq_true rfl)⟩ rfl hl.1 rfl (Nat.le_of_ble_eq_true rfl) d_law_822 hc1 (fun r2 A1 B1 H locs hp hP hD hS => ?_)
  obtain ⟨e0, e1, e2⟩ := hp
  rw [e1, e2] at hP hD
  rw [e0]
  refine lv_icmp_eq hx hb d_law_825 (tgt := 1080) rfl (fun _ => ?_) (fun hn => absurd rfl hn)
  refine W.widen (k := cells + 1) (n := slots + 6) (by omega) (by omega) ?_
  exact nx f I' J' A' B' _ _ ls i' hP hD hS (lv_sub hl [0, 1, 2, 3, 4] rfl)
set_option maxHeartbeats 4000000 in
set_option maxRecDepth 100000 in
theorem lw_waiting (C0 : lwC p l s m c b L xs D κ) {ao i cells slots : Nat} {Θ Φ : Nat → Nat} {Q : State → Prop} (hi : i + 4 ≤ L) (hc : cells + 1 ≤ room_1.cells ∧ slots + 6 ≤ room_1.slots) (nx : lwN p l e s m below meth c b D κ Θ Φ ao i (cells + 1) (slots + 6) Q 1080) : lwN p l e s m below meth c b D κ Θ Φ ao i cells slots Q 830 := by
  intro f I J A B H locs ls hI hP hD hS hl
  obtain ⟨C, hT, hfl, hX, hbl, hL⟩ := C0
  have hx := C.1.1
  have hb := C.1.2.1
  have hown := C.1.2.2.2.1
  have hts := C.1.2.2.2.2
  have hc1 : cells + 0 ≤ room_1.cells ∧ slots + 0 ≤ room_1.slots := ⟨by omega, by omega⟩
  have hc2 : (cells + 1) + 0 ≤ room_1.cells ∧ (slots + 6) + 0 ≤ room_1.slots := hc
  obtain ⟨v, I', J', A', B', g1, g2, i'⟩ := e_waiting hI (xs (i + 1)) (xs (i + 2))
  refine lv_aload_n hx hb d_law_830 rfl (lv_at hl 3 rfl) ?_
  refine lv_aload_n hx hb d_law_831 rfl (lv_at hl 4 rfl) ?_
  refine lv_iload hx hb d_law_832 (lv_at hl 0 rfl) ?_
  refine lv_iconst (v := (1 : Int32)) hx hb d_law_834 (by decide) ?_
  refine lv_iadd hx hb d_law_835 ?_
  refine y_sld (k := 1) hx hb hX hbl hS (by omega) hL (nI_add i 1) d_law_836 ?_
  refine lv_aload_n hx hb d_law_837 rfl (lv_at hl 4 rfl) ?_
  refine lv_iload hx hb d_law_838 (lv_at hl 0 rfl) ?_
  refine lv_iconst (v := (2 : Int32)) hx hb d_law_840 (by decide) ?_
  refine lv_iadd hx hb d_law_841 ?_
  refine y_sld (k := 2) hx hb hX hbl hS (by omega) hL (nI_add i 2) d_law_842 ?_
  refine y_Vi (n := 52) (Θ := Θ) (X := eC Θ κ) (Xs := xw 34 Φ (eM Φ κ) A B) (Zs := wO κ ao f) (As := [.int (xs (i + 1)), .int (xs (i + 2))]) (rest := []) C hP hD hS (Nat.le_of_ble_eq_true rfl) (eC_TC _ _) rfl (fun hΘ => c_TC_waiting l D κ hΘ H.size (xs (i + 1)) (xs (i + 2)) I J (fun r I1 J1 => r = v ∧ I1 = I' ∧ J1 = J') (g1 _ ⟨rfl, rfl, rfl⟩)) q_TC_waiting k_261 k_262 k_260 rfl rfl ⟨(Nat.le_of_ble_eq_true rfl), (Nat.le_of_ble_eq_true rfl)⟩ rfl hl.1 rfl (Nat.le_of_ble_eq_true rfl) d_law_843 hc1 (fun r I1 J1 H locs hp hP hD hS => ?_)
  obtain ⟨er, eI, eJ⟩ := hp
  rw [eI, eJ] at hP hD
  rw [er]
  refine lv_aload_n hx hb d_law_846 rfl (lv_at hl 2 rfl) ?_
  refine lv_aload_n hx hb d_law_847 rfl (lv_at hl 4 rfl) ?_
  refine lv_iload hx hb d_law_848 (lv_at hl 0 rfl) ?_
  refine lv_iconst (v := (1 : Int32)) hx hb d_law_850 (by decide) ?_
  refine lv_iadd hx hb d_law_851 ?_
  refine y_sld (k := 1) hx hb hX hbl hS (by omega) hL (nI_add i 1) d_law_852 ?_
  refine lv_aload_n hx hb d_law_853 rfl (lv_at hl 4 rfl) ?_
  refine lv_iload hx hb d_law_854 (lv_at hl 0 rfl) ?_
  refine lv_iconst (v := (2 : Int32)) hx hb d_law_856 (by decide) ?_
  refine lv_iadd hx hb d_law_857 ?_
  refine y_sld (k := 2) hx hb hX hbl hS (by omega) hL (nI_add i 2) d_law_858 ?_
  refine y_Vi (n := 34) (Θ := Φ) (X := eM Φ κ) (Xs := []) (Zs := xw 52 Θ (eC Θ κ) I' J' ++ wO κ ao f) (As := [.int (xs (i + 1)), .int (xs (i + 2))]) (rest := [.int v]) C hP hD hS (Nat.le_of_ble_eq_true rfl) (eM_Md _ _) rfl (fun hΘ => c_Md_waiting l D κ hΘ H.size (xs (i + 1)) (xs (i + 2)) A B (fun r2 A1 B1 => r2 = v ∧ A1 = A' ∧ B1 = B') (g2 _ ⟨rfl, rfl, rfl⟩)) q_Md_waiting k_1050 k_1051 k_1049 rfl rfl ⟨(Nat.le_of_ble_eq_true rfl), (Nat.le_of_ble_eq_true rfl)⟩ rfl hl.1 rfl (Nat.le_of_ble_eq_true rfl) d_law_859 hc1 (fun r2 A1 B1 H locs hp hP hD hS => ?_)
  obtain ⟨e0, e1, e2⟩ := hp
  rw [e1, e2] at hP hD
  rw [e0]
  refine lv_icmp_eq hx hb d_law_862 (tgt := 1080) rfl (fun _ => ?_) (fun hn => absurd rfl hn)
  refine W.widen (k := cells + 1) (n := slots + 6) (by omega) (by omega) ?_
  exact nx f I' J' A' B' _ _ ls i' hP hD hS (lv_sub hl [0, 1, 2, 3, 4] rfl)
set_option maxHeartbeats 4000000 in
set_option maxRecDepth 100000 in
theorem lw_saying (C0 : lwC p l s m c b L xs D κ) {ao i cells slots : Nat} {Θ Φ : Nat → Nat} {Q : State → Prop} (hi : i + 4 ≤ L) (hc : cells + 1 ≤ room_1.cells ∧ slots + 6 ≤ room_1.slots) (nx : lwN p l e s m below meth c b D κ Θ Φ ao i (cells + 1) (slots + 6) Q 1080) : lwN p l e s m below meth c b D κ Θ Φ ao i cells slots Q 867 := by
  intro f I J A B H locs ls hI hP hD hS hl
  obtain ⟨C, hT, hfl, hX, hbl, hL⟩ := C0
  have hx := C.1.1
  have hb := C.1.2.1
  have hown := C.1.2.2.2.1
  have hts := C.1.2.2.2.2
  have hc1 : cells + 0 ≤ room_1.cells ∧ slots + 0 ≤ room_1.slots := ⟨by omega, by omega⟩
  have hc2 : (cells + 1) + 0 ≤ room_1.cells ∧ (slots + 6) + 0 ≤ room_1.slots := hc
  obtain ⟨v, I', J', A', B', g1, g2, i'⟩ := e_saying hI (xs (i + 1)) (xs (i + 2))
  refine lv_aload_n hx hb d_law_867 rfl (lv_at hl 3 rfl) ?_
  refine lv_aload_n hx hb d_law_868 rfl (lv_at hl 4 rfl) ?_
  refine lv_iload hx hb d_law_869 (lv_at hl 0 rfl) ?_
  refine lv_iconst (v := (1 : Int32)) hx hb d_law_871 (by decide) ?_
  refine lv_iadd hx hb d_law_872 ?_
  refine y_sld (k := 1) hx hb hX hbl hS (by omega) hL (nI_add i 1) d_law_873 ?_
  refine lv_aload_n hx hb d_law_874 rfl (lv_at hl 4 rfl) ?_
  refine lv_iload hx hb d_law_875 (lv_at hl 0 rfl) ?_
  refine lv_iconst (v := (2 : Int32)) hx hb d_law_877 (by decide) ?_
  refine lv_iadd hx hb d_law_878 ?_
  refine y_sld (k := 2) hx hb hX hbl hS (by omega) hL (nI_add i 2) d_law_879 ?_
  refine y_Vi (n := 52) (Θ := Θ) (X := eC Θ κ) (Xs := xw 34 Φ (eM Φ κ) A B) (Zs := wO κ ao f) (As := [.int (xs (i + 1)), .int (xs (i + 2))]) (rest := []) C hP hD hS (Nat.le_of_ble_eq_true rfl) (eC_TC _ _) rfl (fun hΘ => c_TC_saying l D κ hΘ H.size (xs (i + 1)) (xs (i + 2)) I J (fun r I1 J1 => r = v ∧ I1 = I' ∧ J1 = J') (g1 _ ⟨rfl, rfl, rfl⟩)) q_TC_saying k_270 k_271 k_269 rfl rfl ⟨(Nat.le_of_ble_eq_true rfl), (Nat.le_of_ble_eq_true rfl)⟩ rfl hl.1 rfl (Nat.le_of_ble_eq_true rfl) d_law_880 hc1 (fun r I1 J1 H locs hp hP hD hS => ?_)
  obtain ⟨er, eI, eJ⟩ := hp
  rw [eI, eJ] at hP hD
  rw [er]
  refine lv_aload_n hx hb d_law_883 rfl (lv_at hl 2 rfl) ?_
  refine lv_aload_n hx hb d_law_884 rfl (lv_at hl 4 rfl) ?_
  refine lv_iload hx hb d_law_885 (lv_at hl 0 rfl) ?_
  refine lv_iconst (v := (1 : Int32)) hx hb d_law_887 (by decide) ?_
  refine lv_iadd hx hb d_law_888 ?_
  refine y_sld (k := 1) hx hb hX hbl hS (by omega) hL (nI_add i 1) d_law_889 ?_
  refine lv_aload_n hx hb d_law_890 rfl (lv_at hl 4 rfl) ?_
  refine lv_iload hx hb d_law_891 (lv_at hl 0 rfl) ?_
  refine lv_iconst (v := (2 : Int32)) hx hb d_law_893 (by decide) ?_
  refine lv_iadd hx hb d_law_894 ?_
  refine y_sld (k := 2) hx hb hX hbl hS (by omega) hL (nI_add i 2) d_law_895 ?_
  refine y_Vi (n := 34) (Θ := Φ) (X := eM Φ κ) (Xs := []) (Zs := xw 52 Θ (eC Θ κ) I' J' ++ wO κ ao f) (As := [.int (xs (i + 1)), .int (xs (i + 2))]) (rest := [.int v]) C hP hD hS (Nat.le_of_ble_eq_true rfl) (eM_Md _ _) rfl (fun hΘ => c_Md_saying l D κ hΘ H.size (xs (i + 1)) (xs (i + 2)) A B (fun r2 A1 B1 => r2 = v ∧ A1 = A' ∧ B1 = B') (g2 _ ⟨rfl, rfl, rfl⟩)) q_Md_saying k_1054 k_1055 k_1053 rfl rfl ⟨(Nat.le_of_ble_eq_true rfl), (Nat.le_of_ble_eq_true rfl)⟩ rfl hl.1 rfl (Nat.le_of_ble_eq_true rfl) d_law_896 hc1 (fun r2 A1 B1 H locs hp hP hD hS => ?_)
  obtain ⟨e0, e1, e2⟩ := hp
  rw [e1, e2] at hP hD
  rw [e0]
  refine lv_icmp_eq hx hb d_law_899 (tgt := 1080) rfl (fun _ => ?_) (fun hn => absurd rfl hn)
  refine W.widen (k := cells + 1) (n := slots + 6) (by omega) (by omega) ?_
  exact nx f I' J' A' B' _ _ ls i' hP hD hS (lv_sub hl [0, 1, 2, 3, 4] rfl)
set_option maxHeartbeats 4000000 in
set_option maxRecDepth 100000 in
theorem lw_coded (C0 : lwC p l s m c b L xs D κ) {ao i cells slots : Nat} {Θ Φ : Nat → Nat} {Q : State → Prop} (hi : i + 4 ≤ L) (hc : cells + 1 ≤ room_1.cells ∧ slots + 6 ≤ room_1.slots) (nx : lwN p l e s m below meth c b D κ Θ Φ ao i (cells + 1) (slots + 6) Q 1080) : lwN p l e s m below meth c b D κ Θ Φ ao i cells slots Q 904 := by
  intro f I J A B H locs ls hI hP hD hS hl
  obtain ⟨C, hT, hfl, hX, hbl, hL⟩ := C0
  have hx := C.1.1
  have hb := C.1.2.1
  have hown := C.1.2.2.2.1
  have hts := C.1.2.2.2.2
  have hc1 : cells + 0 ≤ room_1.cells ∧ slots + 0 ≤ room_1.slots := ⟨by omega, by omega⟩
  have hc2 : (cells + 1) + 0 ≤ room_1.cells ∧ (slots + 6) + 0 ≤ room_1.slots := hc
  obtain ⟨v, I', J', A', B', g1, g2, i'⟩ := e_coded hI (xs (i + 1)) (xs (i + 2))
  refine lv_aload_n hx hb d_law_904 rfl (lv_at hl 3 rfl) ?_
  refine lv_aload_n hx hb d_law_905 rfl (lv_at hl 4 rfl) ?_
  refine lv_iload hx hb d_law_906 (lv_at hl 0 rfl) ?_
  refine lv_iconst (v := (1 : Int32)) hx hb d_law_908 (by decide) ?_
  refine lv_iadd hx hb d_law_909 ?_
  refine y_sld (k := 1) hx hb hX hbl hS (by omega) hL (nI_add i 1) d_law_910 ?_
  refine lv_aload_n hx hb d_law_911 rfl (lv_at hl 4 rfl) ?_
  refine lv_iload hx hb d_law_912 (lv_at hl 0 rfl) ?_
  refine lv_iconst (v := (2 : Int32)) hx hb d_law_914 (by decide) ?_
  refine lv_iadd hx hb d_law_915 ?_
  refine y_sld (k := 2) hx hb hX hbl hS (by omega) hL (nI_add i 2) d_law_916 ?_
  refine y_Vl (n := 52) (Θ := Θ) (X := eC Θ κ) (Xs := xw 34 Φ (eM Φ κ) A B) (Zs := wO κ ao f) (As := [.int (xs (i + 1)), .int (xs (i + 2))]) (rest := []) C hP hD hS (Nat.le_of_ble_eq_true rfl) (eC_TC _ _) rfl (fun hΘ => c_TC_coded l D κ hΘ H.size (xs (i + 1)) (xs (i + 2)) I J (fun r I1 J1 => r = v ∧ I1 = I' ∧ J1 = J') (g1 _ ⟨rfl, rfl, rfl⟩)) q_TC_coded k_279 k_280 k_278 rfl rfl ⟨(Nat.le_of_ble_eq_true rfl), (Nat.le_of_ble_eq_true rfl)⟩ rfl hl.1 rfl (Nat.le_of_ble_eq_true rfl) d_law_917 hc1 (fun r I1 J1 H locs hp hP hD hS => ?_)
  obtain ⟨er, eI, eJ⟩ := hp
  rw [eI, eJ] at hP hD
  rw [er]
  refine lv_aload_n hx hb d_law_920 rfl (lv_at hl 2 rfl) ?_
  refine lv_aload_n hx hb d_law_921 rfl (lv_at hl 4 rfl) ?_
  refine lv_iload hx hb d_law_922 (lv_at hl 0 rfl) ?_
  refine lv_iconst (v := (1 : Int32)) hx hb d_law_924 (by decide) ?_
  refine lv_iadd hx hb d_law_925 ?_
  refine y_sld (k := 1) hx hb hX hbl hS (by omega) hL (nI_add i 1) d_law_926 ?_
  refine lv_aload_n hx hb d_law_927 rfl (lv_at hl 4 rfl) ?_
  refine lv_iload hx hb d_law_928 (lv_at hl 0 rfl) ?_
  refine lv_iconst (v := (2 : Int32)) hx hb d_law_930 (by decide) ?_
  refine lv_iadd hx hb d_law_931 ?_
  refine y_sld (k := 2) hx hb hX hbl hS (by omega) hL (nI_add i 2) d_law_932 ?_
  refine y_Vl (n := 34) (Θ := Φ) (X := eM Φ κ) (Xs := []) (Zs := xw 52 Θ (eC Θ κ) I' J' ++ wO κ ao f) (As := [.int (xs (i + 1)), .int (xs (i + 2))]) (rest := [.long v]) C hP hD hS (Nat.le_of_ble_eq_true rfl) (eM_Md _ _) rfl (fun hΘ => c_Md_coded l D κ hΘ H.size (xs (i + 1)) (xs (i + 2)) A B (fun r2 A1 B1 => r2 = v ∧ A1 = A' ∧ B1 = B') (g2 _ ⟨rfl, rfl, rfl⟩)) q_Md_coded k_1058 k_1059 k_1057 rfl rfl ⟨(Nat.le_of_ble_eq_true rfl), (Nat.le_of_ble_eq_true rfl)⟩ rfl hl.1 rfl (Nat.le_of_ble_eq_true rfl) d_law_933 hc1 (fun r2 A1 B1 H locs hp hP hD hS => ?_)
  obtain ⟨e0, e1, e2⟩ := hp
  rw [e1, e2] at hP hD
  rw [e0]
  refine W.lcmp hx hb d_law_936 ?_
  refine lv_if_eq hx hb d_law_937 (tgt := 1080) rfl (fun _ => ?_) (fun hn => absurd ((lg_cmp_eq _ _).mpr rfl) hn)
  refine W.widen (k := cells + 1) (n := slots + 6) (by omega) (by omega) ?_
  exact nx f I' J' A' B' _ _ ls i' hP hD hS (lv_sub hl [0, 1, 2, 3, 4] rfl)
set_option maxHeartbeats 4000000 in
set_option maxRecDepth 100000 in
theorem lw_decoded (C0 : lwC p l s m c b L xs D κ) {ao i cells slots : Nat} {Θ Φ : Nat → Nat} {Q : State → Prop} (hi : i + 4 ≤ L) (hc : cells + 1 ≤ room_1.cells ∧ slots + 6 ≤ room_1.slots) (nx : lwN p l e s m below meth c b D κ Θ Φ ao i (cells + 1) (slots + 6) Q 1080) : lwN p l e s m below meth c b D κ Θ Φ ao i cells slots Q 942 := by
  intro f I J A B H locs ls hI hP hD hS hl
  obtain ⟨C, hT, hfl, hX, hbl, hL⟩ := C0
  have hx := C.1.1
  have hb := C.1.2.1
  have hown := C.1.2.2.2.1
  have hts := C.1.2.2.2.2
  have hc1 : cells + 0 ≤ room_1.cells ∧ slots + 0 ≤ room_1.slots := ⟨by omega, by omega⟩
  have hc2 : (cells + 1) + 0 ≤ room_1.cells ∧ (slots + 6) + 0 ≤ room_1.slots := hc
  obtain ⟨v, I', J', A', B', g1, g2, i'⟩ := e_decoded hI ((xll (((xs (i + 1))).toInt64) (32 : Int32)) ||| ((((xs (i + 2))).toInt64) &&& (4294967295 : Int64))) (xs (i + 3))
  refine lv_aload_n hx hb d_law_942 rfl (lv_at hl 3 rfl) ?_
  refine lv_aload_n hx hb d_law_943 rfl (lv_at hl 4 rfl) ?_
  refine lv_iload hx hb d_law_944 (lv_at hl 0 rfl) ?_
  refine lv_iconst (v := (1 : Int32)) hx hb d_law_946 (by decide) ?_
  refine lv_iadd hx hb d_law_947 ?_
  refine y_sld (k := 1) hx hb hX hbl hS (by omega) hL (nI_add i 1) d_law_948 ?_
  refine lv_i2l (v := ((xs (i + 1))).toInt64) hx hb d_law_949 rfl ?_
  refine lv_bipush (v := (32 : Int32)) hx hb d_law_950 (by decide) ?_
  refine lv_lshl (v := (xll (((xs (i + 1))).toInt64) (32 : Int32))) hx hb d_law_952 rfl ?_
  refine lv_aload_n hx hb d_law_953 rfl (lv_at hl 4 rfl) ?_
  refine lv_iload hx hb d_law_954 (lv_at hl 0 rfl) ?_
  refine lv_iconst (v := (2 : Int32)) hx hb d_law_956 (by decide) ?_
  refine lv_iadd hx hb d_law_957 ?_
  refine y_sld (k := 2) hx hb hX hbl hS (by omega) hL (nI_add i 2) d_law_958 ?_
  refine lv_i2l (v := ((xs (i + 2))).toInt64) hx hb d_law_959 rfl ?_
  refine lv_ldc2 (v := (4294967295 : Int64)) hx hb hown (hts _ k_1070) d_law_960 ?_
  refine lv_land hx hb d_law_963 ?_
  refine lv_lor hx hb d_law_964 ?_
  refine lv_aload_n hx hb d_law_965 rfl (lv_at hl 4 rfl) ?_
  refine lv_iload hx hb d_law_966 (lv_at hl 0 rfl) ?_
  refine lv_iconst (v := (3 : Int32)) hx hb d_law_968 (by decide) ?_
  refine lv_iadd hx hb d_law_969 ?_
  refine y_sld (k := 3) hx hb hX hbl hS (by omega) hL (nI_add i 3) d_law_970 ?_
  refine y_Vi (n := 52) (Θ := Θ) (X := eC Θ κ) (Xs := xw 34 Φ (eM Φ κ) A B) (Zs := wO κ ao f) (As := [.long ((xll (((xs (i + 1))).toInt64) (32 : Int32)) ||| ((((xs (i + 2))).toInt64) &&& (4294967295 : Int64))), .int (xs (i + 3))]) (rest := []) C hP hD hS (Nat.le_of_ble_eq_true rfl) (eC_TC _ _) rfl (fun hΘ => c_TC_decoded l D κ hΘ H.size ((xll (((xs (i + 1))).toInt64) (32 : Int32)) ||| ((((xs (i + 2))).toInt64) &&& (4294967295 : Int64))) (xs (i + 3)) I J (fun r I1 J1 => r = v ∧ I1 = I' ∧ J1 = J') (g1 _ ⟨rfl, rfl, rfl⟩)) q_TC_decoded k_300 k_301 k_299 rfl rfl ⟨(Nat.le_of_ble_eq_true rfl), (Nat.le_of_ble_eq_true rfl)⟩ rfl hl.1 rfl (Nat.le_of_ble_eq_true rfl) d_law_971 hc1 (fun r I1 J1 H locs hp hP hD hS => ?_)
  obtain ⟨er, eI, eJ⟩ := hp
  rw [eI, eJ] at hP hD
  rw [er]
  refine lv_aload_n hx hb d_law_974 rfl (lv_at hl 2 rfl) ?_
  refine lv_aload_n hx hb d_law_975 rfl (lv_at hl 4 rfl) ?_
  refine lv_iload hx hb d_law_976 (lv_at hl 0 rfl) ?_
  refine lv_iconst (v := (1 : Int32)) hx hb d_law_978 (by decide) ?_
  refine lv_iadd hx hb d_law_979 ?_
  refine y_sld (k := 1) hx hb hX hbl hS (by omega) hL (nI_add i 1) d_law_980 ?_
  refine lv_i2l (v := ((xs (i + 1))).toInt64) hx hb d_law_981 rfl ?_
  refine lv_bipush (v := (32 : Int32)) hx hb d_law_982 (by decide) ?_
  refine lv_lshl (v := (xll (((xs (i + 1))).toInt64) (32 : Int32))) hx hb d_law_984 rfl ?_
  refine lv_aload_n hx hb d_law_985 rfl (lv_at hl 4 rfl) ?_
  refine lv_iload hx hb d_law_986 (lv_at hl 0 rfl) ?_
  refine lv_iconst (v := (2 : Int32)) hx hb d_law_988 (by decide) ?_
  refine lv_iadd hx hb d_law_989 ?_
  refine y_sld (k := 2) hx hb hX hbl hS (by omega) hL (nI_add i 2) d_law_990 ?_
  refine lv_i2l (v := ((xs (i + 2))).toInt64) hx hb d_law_991 rfl ?_
  refine lv_ldc2 (v := (4294967295 : Int64)) hx hb hown (hts _ k_1070) d_law_992 ?_
  refine lv_land hx hb d_law_995 ?_
  refine lv_lor hx hb d_law_996 ?_
  refine lv_aload_n hx hb d_law_997 rfl (lv_at hl 4 rfl) ?_
  refine lv_iload hx hb d_law_998 (lv_at hl 0 rfl) ?_
  refine lv_iconst (v := (3 : Int32)) hx hb d_law_1000 (by decide) ?_
  refine lv_iadd hx hb d_law_1001 ?_
  refine y_sld (k := 3) hx hb hX hbl hS (by omega) hL (nI_add i 3) d_law_1002 ?_
  refine y_Vi (n := 34) (Θ := Φ) (X := eM Φ κ) (Xs := []) (Zs := xw 52 Θ (eC Θ κ) I' J' ++ wO κ ao f) (As := [.long ((xll (((xs (i + 1))).toInt64) (32 : Int32)) ||| ((((xs (i + 2))).toInt64) &&& (4294967295 : Int64))), .int (xs (i + 3))]) (rest := [.int v]) C hP hD hS (Nat.le_of_ble_eq_true rfl) (eM_Md _ _) rfl (fun hΘ => c_Md_decoded l D κ hΘ H.size ((xll (((xs (i + 1))).toInt64) (32 : Int32)) ||| ((((xs (i + 2))).toInt64) &&& (4294967295 : Int64))) (xs (i + 3)) A B (fun r2 A1 B1 => r2 = v ∧ A1 = A' ∧ B1 = B') (g2 _ ⟨rfl, rfl, rfl⟩)) q_Md_decoded k_1063 k_1064 k_1062 rfl rfl ⟨(Nat.le_of_ble_eq_true rfl), (Nat.le_of_ble_eq_true rfl)⟩ rfl hl.1 rfl (Nat.le_of_ble_eq_true rfl) d_law_1003 hc1 (fun r2 A1 B1 H locs hp hP hD hS => ?_)
  obtain ⟨e0, e1, e2⟩ := hp
  rw [e1, e2] at hP hD
  rw [e0]
  refine lv_icmp_eq hx hb d_law_1006 (tgt := 1080) rfl (fun _ => ?_) (fun hn => absurd rfl hn)
  refine W.widen (k := cells + 1) (n := slots + 6) (by omega) (by omega) ?_
  exact nx f I' J' A' B' _ _ ls i' hP hD hS (lv_sub hl [0, 1, 2, 3, 4] rfl)
set_option maxHeartbeats 4000000 in
set_option maxRecDepth 100000 in
theorem lw_distance (C0 : lwC p l s m c b L xs D κ) {ao i cells slots : Nat} {Θ Φ : Nat → Nat} {Q : State → Prop} (hi : i + 4 ≤ L) (hc : cells + 1 ≤ room_1.cells ∧ slots + 6 ≤ room_1.slots) (nx : lwN p l e s m below meth c b D κ Θ Φ ao i (cells + 1) (slots + 6) Q 1080) : lwN p l e s m below meth c b D κ Θ Φ ao i cells slots Q 1011 := by
  intro f I J A B H locs ls hI hP hD hS hl
  obtain ⟨C, hT, hfl, hX, hbl, hL⟩ := C0
  have hx := C.1.1
  have hb := C.1.2.1
  have hown := C.1.2.2.2.1
  have hts := C.1.2.2.2.2
  have hc1 : cells + 0 ≤ room_1.cells ∧ slots + 0 ≤ room_1.slots := ⟨by omega, by omega⟩
  have hc2 : (cells + 1) + 0 ≤ room_1.cells ∧ (slots + 6) + 0 ≤ room_1.slots := hc
  obtain ⟨v, I', J', A', B', g1, g2, i'⟩ := e_distance hI ((xll (((xs (i + 1))).toInt64) (32 : Int32)) ||| ((((xs (i + 2))).toInt64) &&& (4294967295 : Int64))) (xs (i + 3))
  refine lv_aload_n hx hb d_law_1011 rfl (lv_at hl 3 rfl) ?_
  refine lv_aload_n hx hb d_law_1012 rfl (lv_at hl 4 rfl) ?_
  refine lv_iload hx hb d_law_1013 (lv_at hl 0 rfl) ?_
  refine lv_iconst (v := (1 : Int32)) hx hb d_law_1015 (by decide) ?_
  refine lv_iadd hx hb d_law_1016 ?_
  refine y_sld (k := 1) hx hb hX hbl hS (by omega) hL (nI_add i 1) d_law_1017 ?_
  refine lv_i2l (v := ((xs (i + 1))).toInt64) hx hb d_law_1018 rfl ?_
  refine lv_bipush (v := (32 : Int32)) hx hb d_law_1019 (by decide) ?_
  refine lv_lshl (v := (xll (((xs (i + 1))).toInt64) (32 : Int32))) hx hb d_law_1021 rfl ?_
  refine lv_aload_n hx hb d_law_1022 rfl (lv_at hl 4 rfl) ?_
  refine lv_iload hx hb d_law_1023 (lv_at hl 0 rfl) ?_
  refine lv_iconst (v := (2 : Int32)) hx hb d_law_1025 (by decide) ?_
  refine lv_iadd hx hb d_law_1026 ?_
  refine y_sld (k := 2) hx hb hX hbl hS (by omega) hL (nI_add i 2) d_law_1027 ?_
  refine lv_i2l (v := ((xs (i + 2))).toInt64) hx hb d_law_1028 rfl ?_
  refine lv_ldc2 (v := (4294967295 : Int64)) hx hb hown (hts _ k_1070) d_law_1029 ?_
  refine lv_land hx hb d_law_1032 ?_
  refine lv_lor hx hb d_law_1033 ?_
  refine lv_aload_n hx hb d_law_1034 rfl (lv_at hl 4 rfl) ?_
  refine lv_iload hx hb d_law_1035 (lv_at hl 0 rfl) ?_
  refine lv_iconst (v := (3 : Int32)) hx hb d_law_1037 (by decide) ?_
  refine lv_iadd hx hb d_law_1038 ?_
  refine y_sld (k := 3) hx hb hX hbl hS (by omega) hL (nI_add i 3) d_law_1039 ?_
  refine y_Vi (n := 52) (Θ := Θ) (X := eC Θ κ) (Xs := xw 34 Φ (eM Φ κ) A B) (Zs := wO κ ao f) (As := [.long ((xll (((xs (i + 1))).toInt64) (32 : Int32)) ||| ((((xs (i + 2))).toInt64) &&& (4294967295 : Int64))), .int (xs (i + 3))]) (rest := []) C hP hD hS (Nat.le_of_ble_eq_true rfl) (eC_TC _ _) rfl (fun hΘ => c_TC_distance l D κ hΘ H.size ((xll (((xs (i + 1))).toInt64) (32 : Int32)) ||| ((((xs (i + 2))).toInt64) &&& (4294967295 : Int64))) (xs (i + 3)) I J (fun r I1 J1 => r = v ∧ I1 = I' ∧ J1 = J') (g1 _ ⟨rfl, rfl, rfl⟩)) q_TC_distance k_323 k_324 k_322 rfl rfl ⟨(Nat.le_of_ble_eq_true rfl), (Nat.le_of_ble_eq_true rfl)⟩ rfl hl.1 rfl (Nat.le_of_ble_eq_true rfl) d_law_1040 hc1 (fun r I1 J1 H locs hp hP hD hS => ?_)
  obtain ⟨er, eI, eJ⟩ := hp
  rw [eI, eJ] at hP hD
  rw [er]
  refine lv_aload_n hx hb d_law_1043 rfl (lv_at hl 2 rfl) ?_
  refine lv_aload_n hx hb d_law_1044 rfl (lv_at hl 4 rfl) ?_
  refine lv_iload hx hb d_law_1045 (lv_at hl 0 rfl) ?_
  refine lv_iconst (v := (1 : Int32)) hx hb d_law_1047 (by decide) ?_
  refine lv_iadd hx hb d_law_1048 ?_
  refine y_sld (k := 1) hx hb hX hbl hS (by omega) hL (nI_add i 1) d_law_1049 ?_
  refine lv_i2l (v := ((xs (i + 1))).toInt64) hx hb d_law_1050 rfl ?_
  refine lv_bipush (v := (32 : Int32)) hx hb d_law_1051 (by decide) ?_
  refine lv_lshl (v := (xll (((xs (i + 1))).toInt64) (32 : Int32))) hx hb d_law_1053 rfl ?_
  refine lv_aload_n hx hb d_law_1054 rfl (lv_at hl 4 rfl) ?_
  refine lv_iload hx hb d_law_1055 (lv_at hl 0 rfl) ?_
  refine lv_iconst (v := (2 : Int32)) hx hb d_law_1057 (by decide) ?_
  refine lv_iadd hx hb d_law_1058 ?_
  refine y_sld (k := 2) hx hb hX hbl hS (by omega) hL (nI_add i 2) d_law_1059 ?_
  refine lv_i2l (v := ((xs (i + 2))).toInt64) hx hb d_law_1060 rfl ?_
  refine lv_ldc2 (v := (4294967295 : Int64)) hx hb hown (hts _ k_1070) d_law_1061 ?_
  refine lv_land hx hb d_law_1064 ?_
  refine lv_lor hx hb d_law_1065 ?_
  refine lv_aload_n hx hb d_law_1066 rfl (lv_at hl 4 rfl) ?_
  refine lv_iload hx hb d_law_1067 (lv_at hl 0 rfl) ?_
  refine lv_iconst (v := (3 : Int32)) hx hb d_law_1069 (by decide) ?_
  refine lv_iadd hx hb d_law_1070 ?_
  refine y_sld (k := 3) hx hb hX hbl hS (by omega) hL (nI_add i 3) d_law_1071 ?_
  refine y_Vi (n := 34) (Θ := Φ) (X := eM Φ κ) (Xs := []) (Zs := xw 52 Θ (eC Θ κ) I' J' ++ wO κ ao f) (As := [.long ((xll (((xs (i + 1))).toInt64) (32 : Int32)) ||| ((((xs (i + 2))).toInt64) &&& (4294967295 : Int64))), .int (xs (i + 3))]) (rest := [.int v]) C hP hD hS (Nat.le_of_ble_eq_true rfl) (eM_Md _ _) rfl (fun hΘ => c_Md_distance l D κ hΘ H.size ((xll (((xs (i + 1))).toInt64) (32 : Int32)) ||| ((((xs (i + 2))).toInt64) &&& (4294967295 : Int64))) (xs (i + 3)) A B (fun r2 A1 B1 => r2 = v ∧ A1 = A' ∧ B1 = B') (g2 _ ⟨rfl, rfl, rfl⟩)) q_Md_distance k_1067 k_1068 k_1066 rfl rfl ⟨(Nat.le_of_ble_eq_true rfl), (Nat.le_of_ble_eq_true rfl)⟩ rfl hl.1 rfl (Nat.le_of_ble_eq_true rfl) d_law_1072 hc1 (fun r2 A1 B1 H locs hp hP hD hS => ?_)
  obtain ⟨e0, e1, e2⟩ := hp
  rw [e1, e2] at hP hD
  rw [e0]
  refine lv_icmp_eq hx hb d_law_1075 (tgt := 1080) rfl (fun _ => ?_) (fun hn => absurd rfl hn)
  refine W.widen (k := cells + 1) (n := slots + 6) (by omega) (by omega) ?_
  exact nx f I' J' A' B' _ _ ls i' hP hD hS (lv_sub hl [0, 1, 2, 3, 4] rfl)
end LB
