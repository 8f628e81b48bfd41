/-! the law's cases -/
theorem k_330 : (Jvm.Cond.methodLink "TrunkCellsLaw" (60 : Nat) y_Lw_keys) ∈ WS := WS_of 330 (by decide +kernel) (by decide +kernel)
theorem k_331 : (Jvm.Cond.static y_Lw_keys) ∈ WS := WS_of 331 (by decide +kernel) (by decide +kernel)
theorem k_409 : (Jvm.Cond.methodLink "TrunkCellsLaw" (70 : Nat) y_Lw_group) ∈ WS := WS_of 409 (by decide +kernel) (by decide +kernel)
theorem k_410 : (Jvm.Cond.static y_Lw_group) ∈ WS := WS_of 410 (by decide +kernel) (by decide +kernel)
theorem k_416 : (Jvm.Cond.methodLink "TrunkCellsLaw" (74 : Nat) y_Lw_member) ∈ WS := WS_of 416 (by decide +kernel) (by decide +kernel)
theorem k_417 : (Jvm.Cond.static y_Lw_member) ∈ WS := WS_of 417 (by decide +kernel) (by decide +kernel)
theorem k_423 : (Jvm.Cond.methodLink "TrunkCellsLaw" (77 : Nat) y_Lw_move) ∈ WS := WS_of 423 (by decide +kernel) (by decide +kernel)
theorem k_424 : (Jvm.Cond.static y_Lw_move) ∈ WS := WS_of 424 (by decide +kernel) (by decide +kernel)
theorem k_446 : (Jvm.Cond.methodLink "TrunkCellsLaw" (80 : Nat) y_Lw_register) ∈ WS := WS_of 446 (by decide +kernel) (by decide +kernel)
theorem k_447 : (Jvm.Cond.static y_Lw_register) ∈ WS := WS_of 447 (by decide +kernel) (by decide +kernel)
theorem k_481 : (Jvm.Cond.methodLink "TrunkCellsLaw" (84 : Nat) y_Lw_press) ∈ WS := WS_of 481 (by decide +kernel) (by decide +kernel)
theorem k_482 : (Jvm.Cond.static y_Lw_press) ∈ WS := WS_of 482 (by decide +kernel) (by decide +kernel)
theorem k_878 : (Jvm.Cond.methodLink "TrunkCellsLaw" (66 : Nat) y_Md_thrown) ∈ WS := WS_of 878 (by decide +kernel) (by decide +kernel)
theorem k_879 : (Jvm.Cond.instanceMethod y_Md_thrown) ∈ WS := WS_of 879 (by decide +kernel) (by decide +kernel)
theorem k_880 : (Jvm.Cond.selects "TrunkCellsModel" y_Md_thrown y_Md_thrown) ∈ WS := WS_of 880 (by decide +kernel) (by decide +kernel)
theorem k_882 : (Jvm.Cond.methodLink "TrunkCellsLaw" (65 : Nat) y_Md_keys) ∈ WS := WS_of 882 (by decide +kernel) (by decide +kernel)
theorem k_883 : (Jvm.Cond.instanceMethod y_Md_keys) ∈ WS := WS_of 883 (by decide +kernel) (by decide +kernel)
theorem k_884 : (Jvm.Cond.selects "TrunkCellsModel" y_Md_keys y_Md_keys) ∈ WS := WS_of 884 (by decide +kernel) (by decide +kernel)
theorem k_889 : (Jvm.Cond.methodLink "TrunkCellsLaw" (73 : Nat) y_Md_group) ∈ WS := WS_of 889 (by decide +kernel) (by decide +kernel)
theorem k_890 : (Jvm.Cond.instanceMethod y_Md_group) ∈ WS := WS_of 890 (by decide +kernel) (by decide +kernel)
theorem k_891 : (Jvm.Cond.selects "TrunkCellsModel" y_Md_group y_Md_group) ∈ WS := WS_of 891 (by decide +kernel) (by decide +kernel)
theorem k_893 : (Jvm.Cond.methodLink "TrunkCellsLaw" (76 : Nat) y_Md_member) ∈ WS := WS_of 893 (by decide +kernel) (by decide +kernel)
theorem k_894 : (Jvm.Cond.instanceMethod y_Md_member) ∈ WS := WS_of 894 (by decide +kernel) (by decide +kernel)
theorem k_895 : (Jvm.Cond.selects "TrunkCellsModel" y_Md_member y_Md_member) ∈ WS := WS_of 895 (by decide +kernel) (by decide +kernel)
theorem k_897 : (Jvm.Cond.methodLink "TrunkCellsLaw" (79 : Nat) y_Md_move) ∈ WS := WS_of 897 (by decide +kernel) (by decide +kernel)
theorem k_898 : (Jvm.Cond.instanceMethod y_Md_move) ∈ WS := WS_of 898 (by decide +kernel) (by decide +kernel)
theorem k_899 : (Jvm.Cond.selects "TrunkCellsModel" y_Md_move y_Md_move) ∈ WS := WS_of 899 (by decide +kernel) (by decide +kernel)
theorem k_909 : (Jvm.Cond.methodLink "TrunkCellsLaw" (83 : Nat) y_Md_register) ∈ WS := WS_of 909 (by decide +kernel) (by decide +kernel)
theorem k_910 : (Jvm.Cond.instanceMethod y_Md_register) ∈ WS := WS_of 910 (by decide +kernel) (by decide +kernel)
theorem k_911 : (Jvm.Cond.selects "TrunkCellsModel" y_Md_register y_Md_register) ∈ WS := WS_of 911 (by decide +kernel) (by decide +kernel)
theorem k_917 : (Jvm.Cond.methodLink "TrunkCellsLaw" (86 : Nat) y_Md_press) ∈ WS := WS_of 917 (by decide +kernel) (by decide +kernel)
theorem k_918 : (Jvm.Cond.instanceMethod y_Md_press) ∈ WS := WS_of 918 (by decide +kernel) (by decide +kernel)
theorem k_919 : (Jvm.Cond.selects "TrunkCellsModel" y_Md_press y_Md_press) ∈ WS := WS_of 919 (by decide +kernel) (by decide +kernel)
section LB
variable {p : Program} {l : Launch} {e : Env} {s : State} {m : MethodId} {below : List Frame} {meth : Method} {c : Code} {b L : Nat} {xs : Nat → Int32} {D : va_G} {κ : Nat → ClassId}
set_option maxHeartbeats 4000000 in
set_option maxRecDepth 100000 in
theorem lw_keys (C0 : lwC p l s m c b L xs D κ) {ao i cells slots : Nat} {Θ Φ : Nat → Nat} {Q : State → Prop} (hi : i + 4 ≤ L) (hc : cells + 1 ≤ room_1.cells ∧ slots + 6 ≤ room_1.slots) (nx : lwN p l e s m below meth c b D κ Θ Φ ao i (cells + 1) (slots + 6) Q 1080) : lwN p l e s m below meth c b D κ Θ Φ ao i cells slots Q 128 := by
  intro f I J A B H locs ls hI hP hD hS hl
  obtain ⟨C, hT, hfl, hX, hbl, hL⟩ := C0
  have hx := C.1.1
  have hb := C.1.2.1
  have hown := C.1.2.2.2.1
  have hts := C.1.2.2.2.2
  have hc1 : cells + 0 ≤ room_1.cells ∧ slots + 0 ≤ room_1.slots := ⟨by omega, by omega⟩
  have hc2 : (cells + 1) + 0 ≤ room_1.cells ∧ (slots + 6) + 0 ≤ room_1.slots := hc
  obtain ⟨v, I', J', A', B', g1, g2, i', z⟩ := e_keys hI (xs (i + 1)) (xs (i + 2)) (xs (i + 3))
  refine lv_aload_n hx hb d_law_128 rfl (lv_at hl 3 rfl) ?_
  refine lv_aload_n hx hb d_law_129 rfl (lv_at hl 4 rfl) ?_
  refine lv_iload hx hb d_law_130 (lv_at hl 0 rfl) ?_
  refine lv_iconst (v := (1 : Int32)) hx hb d_law_132 (by decide) ?_
  refine lv_iadd hx hb d_law_133 ?_
  refine y_sld (k := 1) hx hb hX hbl hS (by omega) hL (nI_add i 1) d_law_134 ?_
  refine lv_aload_n hx hb d_law_135 rfl (lv_at hl 4 rfl) ?_
  refine lv_iload hx hb d_law_136 (lv_at hl 0 rfl) ?_
  refine lv_iconst (v := (2 : Int32)) hx hb d_law_138 (by decide) ?_
  refine lv_iadd hx hb d_law_139 ?_
  refine y_sld (k := 2) hx hb hX hbl hS (by omega) hL (nI_add i 2) d_law_140 ?_
  refine lv_aload_n hx hb d_law_141 rfl (lv_at hl 4 rfl) ?_
  refine lv_iload hx hb d_law_142 (lv_at hl 0 rfl) ?_
  refine lv_iconst (v := (3 : Int32)) hx hb d_law_144 (by decide) ?_
  refine lv_iadd hx hb d_law_145 ?_
  refine y_sld (k := 3) hx hb hX hbl hS (by omega) hL (nI_add i 3) d_law_146 ?_
  refine y_Hi (k := 4) (n := 52) (Θ := Θ) (X := eC Θ κ) (Xs := xw 34 Φ (eM Φ κ) A B) (Zs := wO κ ao f) (As := [.ref (Θ 0), .int (xs (i + 1)), .int (xs (i + 2)), .int (xs (i + 3))]) (rest := []) C hT hP hD hS (fun hΘ => c_Lw_keys l hfl D κ hΘ H.size (xs (i + 1)) (xs (i + 2)) (xs (i + 3)) I J (fun r I1 J1 => r = v ∧ I1 = I' ∧ J1 = J') (g1 _ ⟨rfl, rfl, rfl⟩)) k_332 k_0 ⟨⟨by decide +kernel, by decide +kernel⟩, by decide +kernel⟩ k_331 k_330 rfl rfl ⟨(Nat.le_of_ble_eq_true rfl), (Nat.le_of_ble_eq_true rfl)⟩ rfl hl.1 rfl (Nat.le_of_ble_eq_true rfl) d_law_147 hc (fun r I1 J1 H locs hp hP hD hS => ?_)
  obtain ⟨er, eI, eJ⟩ := hp
  rw [eI, eJ] at hP hD
  rw [er]
  refine lv_istore hx hb d_law_150 hl (Nat.le_of_ble_eq_true rfl) (lv' := [(5, .int v), (4, .int (nI i)), (3, .ref ao), (2, .ref (Φ 0)), (1, .ref (Θ 0)), (0, .ref b)]) rfl (fun ls hl => ?_)
  refine lv_aload_n hx hb d_law_152 rfl (lv_at hl 3 rfl) ?_
  refine lv_aload_n hx hb d_law_153 rfl (lv_at hl 5 rfl) ?_
  refine lv_iload hx hb d_law_154 (lv_at hl 1 rfl) ?_
  refine lv_iconst (v := (1 : Int32)) hx hb d_law_156 (by decide) ?_
  refine lv_iadd hx hb d_law_157 ?_
  refine y_sld (k := 1) hx hb hX hbl hS (by omega) hL (nI_add i 1) d_law_158 ?_
  refine lv_aload_n hx hb d_law_159 rfl (lv_at hl 5 rfl) ?_
  refine lv_iload hx hb d_law_160 (lv_at hl 1 rfl) ?_
  refine lv_iconst (v := (2 : Int32)) hx hb d_law_162 (by decide) ?_
  refine lv_iadd hx hb d_law_163 ?_
  refine y_sld (k := 2) hx hb hX hbl hS (by omega) hL (nI_add i 2) d_law_164 ?_
  refine lv_aload_n hx hb d_law_165 rfl (lv_at hl 5 rfl) ?_
  refine lv_iload hx hb d_law_166 (lv_at hl 1 rfl) ?_
  refine lv_iconst (v := (3 : Int32)) hx hb d_law_168 (by decide) ?_
  refine lv_iadd hx hb d_law_169 ?_
  refine y_sld (k := 3) hx hb hX hbl hS (by omega) hL (nI_add i 3) d_law_170 ?_
  refine y_Vv (n := 34) (Θ := Φ) (X := eM Φ κ) (Xs := []) (Zs := xw 52 Θ (eC Θ κ) I' J' ++ wO κ ao f) (As := [.int (xs (i + 1)), .int (xs (i + 2)), .int (xs (i + 3))]) (rest := []) C hP hD hS (Nat.le_of_ble_eq_true rfl) (eM_Md _ _) rfl (fun hΘ => c_Md_keys l D κ hΘ H.size (xs (i + 1)) (xs (i + 2)) (xs (i + 3)) A B (fun A1 B1 => A1 = A' ∧ B1 = B') (g2 _ ⟨rfl, rfl⟩)) q_Md_keys k_883 k_884 k_882 rfl rfl ⟨(Nat.le_of_ble_eq_true rfl), (Nat.le_of_ble_eq_true rfl)⟩ rfl hl.1 rfl (Nat.le_of_ble_eq_true rfl) d_law_171 hc2 (fun A1 B1 H locs hp hP hD hS => ?_)
  obtain ⟨e1, e2⟩ := hp
  rw [e1, e2] at hP hD
  refine lv_aload_n hx hb d_law_174 rfl (lv_at hl 3 rfl) ?_
  refine y_Vi (n := 34) (Θ := Φ) (X := eM Φ κ) (Xs := []) (Zs := xw 52 Θ (eC Θ κ) I' J' ++ wO κ ao f) (As := []) (rest := []) C hP hD hS (Nat.le_of_ble_eq_true rfl) (eM_Md _ _) rfl (fun hΘ => c_Md_thrown l D κ hΘ H.size  A' B' (fun r2 A2 B2 => r2 = A' 0 0 ∧ A2 = A' ∧ B2 = B') ⟨rfl, rfl, rfl⟩) q_Md_thrown k_879 k_880 k_878 rfl rfl ⟨(Nat.le_of_ble_eq_true rfl), (Nat.le_of_ble_eq_true rfl)⟩ rfl hl.1 rfl (Nat.le_of_ble_eq_true rfl) d_law_175 hc2 (fun r2 A2 B2 H locs hp hP hD hS => ?_)
  obtain ⟨e1, e2, e3⟩ := hp
  rw [e2, e3] at hP hD
  rw [e1]
  refine lv_iload hx hb d_law_178 (lv_at hl 0 rfl) ?_
  refine lv_icmp_eq hx hb d_law_180 (tgt := 185) rfl (fun _ => ?_) (fun hn => absurd z hn)
  refine lv_goto hx hb d_law_185 (tgt := 1080) rfl ?_
  exact nx f I' J' A' B' _ _ ls i' hP hD hS (lv_sub hl [1, 2, 3, 4, 5] rfl)
set_option maxHeartbeats 4000000 in
set_option maxRecDepth 100000 in
theorem lw_group (C0 : lwC p l s m c b L xs D κ) {ao i cells slots : Nat} {Θ Φ : Nat → Nat} {Q : State → Prop} (hi : i + 4 ≤ L) (hc : cells + 1 ≤ room_1.cells ∧ slots + 6 ≤ room_1.slots) (nx : lwN p l e s m below meth c b D κ Θ Φ ao i (cells + 1) (slots + 6) Q 1080) : lwN p l e s m below meth c b D κ Θ Φ ao i cells slots Q 188 := by
  intro f I J A B H locs ls hI hP hD hS hl
  obtain ⟨C, hT, hfl, hX, hbl, hL⟩ := C0
  have hx := C.1.1
  have hb := C.1.2.1
  have hown := C.1.2.2.2.1
  have hts := C.1.2.2.2.2
  have hc1 : cells + 0 ≤ room_1.cells ∧ slots + 0 ≤ room_1.slots := ⟨by omega, by omega⟩
  have hc2 : (cells + 1) + 0 ≤ room_1.cells ∧ (slots + 6) + 0 ≤ room_1.slots := hc
  obtain ⟨v, I', J', A', B', g1, g2, i', z⟩ := e_group hI (xs (i + 1)) (xs (i + 2))
  refine lv_aload_n hx hb d_law_188 rfl (lv_at hl 3 rfl) ?_
  refine lv_aload_n hx hb d_law_189 rfl (lv_at hl 4 rfl) ?_
  refine lv_iload hx hb d_law_190 (lv_at hl 0 rfl) ?_
  refine lv_iconst (v := (1 : Int32)) hx hb d_law_192 (by decide) ?_
  refine lv_iadd hx hb d_law_193 ?_
  refine y_sld (k := 1) hx hb hX hbl hS (by omega) hL (nI_add i 1) d_law_194 ?_
  refine lv_aload_n hx hb d_law_195 rfl (lv_at hl 4 rfl) ?_
  refine lv_iload hx hb d_law_196 (lv_at hl 0 rfl) ?_
  refine lv_iconst (v := (2 : Int32)) hx hb d_law_198 (by decide) ?_
  refine lv_iadd hx hb d_law_199 ?_
  refine y_sld (k := 2) hx hb hX hbl hS (by omega) hL (nI_add i 2) d_law_200 ?_
  refine y_Hi (k := 3) (n := 52) (Θ := Θ) (X := eC Θ κ) (Xs := xw 34 Φ (eM Φ κ) A B) (Zs := wO κ ao f) (As := [.ref (Θ 0), .int (xs (i + 1)), .int (xs (i + 2))]) (rest := []) C hT hP hD hS (fun hΘ => c_Lw_group l hfl D κ hΘ H.size (xs (i + 1)) (xs (i + 2)) I J (fun r I1 J1 => r = v ∧ I1 = I' ∧ J1 = J') (g1 _ ⟨rfl, rfl, rfl⟩)) k_411 k_0 ⟨⟨by decide +kernel, by decide +kernel⟩, by decide +kernel⟩ k_410 k_409 rfl rfl ⟨(Nat.le_of_ble_eq_true rfl), (Nat.le_of_ble_eq_true rfl)⟩ rfl hl.1 rfl (Nat.le_of_ble_eq_true rfl) d_law_201 hc (fun r I1 J1 H locs hp hP hD hS => ?_)
  obtain ⟨er, eI, eJ⟩ := hp
  rw [eI, eJ] at hP hD
  rw [er]
  refine lv_istore hx hb d_law_204 hl (Nat.le_of_ble_eq_true rfl) (lv' := [(5, .int v), (4, .int (nI i)), (3, .ref ao), (2, .ref (Φ 0)), (1, .ref (Θ 0)), (0, .ref b)]) rfl (fun ls hl => ?_)
  refine lv_aload_n hx hb d_law_206 rfl (lv_at hl 3 rfl) ?_
  refine lv_aload_n hx hb d_law_207 rfl (lv_at hl 5 rfl) ?_
  refine lv_iload hx hb d_law_208 (lv_at hl 1 rfl) ?_
  refine lv_iconst (v := (1 : Int32)) hx hb d_law_210 (by decide) ?_
  refine lv_iadd hx hb d_law_211 ?_
  refine y_sld (k := 1) hx hb hX hbl hS (by omega) hL (nI_add i 1) d_law_212 ?_
  refine lv_aload_n hx hb d_law_213 rfl (lv_at hl 5 rfl) ?_
  refine lv_iload hx hb d_law_214 (lv_at hl 1 rfl) ?_
  refine lv_iconst (v := (2 : Int32)) hx hb d_law_216 (by decide) ?_
  refine lv_iadd hx hb d_law_217 ?_
  refine y_sld (k := 2) hx hb hX hbl hS (by omega) hL (nI_add i 2) d_law_218 ?_
  refine y_Vv (n := 34) (Θ := Φ) (X := eM Φ κ) (Xs := []) (Zs := xw 52 Θ (eC Θ κ) I' J' ++ wO κ ao f) (As := [.int (xs (i + 1)), .int (xs (i + 2))]) (rest := []) C hP hD hS (Nat.le_of_ble_eq_true rfl) (eM_Md _ _) rfl (fun hΘ => c_Md_group l D κ hΘ H.size (xs (i + 1)) (xs (i + 2)) A B (fun A1 B1 => A1 = A' ∧ B1 = B') (g2 _ ⟨rfl, rfl⟩)) q_Md_group k_890 k_891 k_889 rfl rfl ⟨(Nat.le_of_ble_eq_true rfl), (Nat.le_of_ble_eq_true rfl)⟩ rfl hl.1 rfl (Nat.le_of_ble_eq_true rfl) d_law_219 hc2 (fun A1 B1 H locs hp hP hD hS => ?_)
  obtain ⟨e1, e2⟩ := hp
  rw [e1, e2] at hP hD
  refine lv_aload_n hx hb d_law_222 rfl (lv_at hl 3 rfl) ?_
  refine y_Vi (n := 34) (Θ := Φ) (X := eM Φ κ) (Xs := []) (Zs := xw 52 Θ (eC Θ κ) I' J' ++ wO κ ao f) (As := []) (rest := []) C hP hD hS (Nat.le_of_ble_eq_true rfl) (eM_Md _ _) rfl (fun hΘ => c_Md_thrown l D κ hΘ H.size  A' B' (fun r2 A2 B2 => r2 = A' 0 0 ∧ A2 = A' ∧ B2 = B') ⟨rfl, rfl, rfl⟩) q_Md_thrown k_879 k_880 k_878 rfl rfl ⟨(Nat.le_of_ble_eq_true rfl), (Nat.le_of_ble_eq_true rfl)⟩ rfl hl.1 rfl (Nat.le_of_ble_eq_true rfl) d_law_223 hc2 (fun r2 A2 B2 H locs hp hP hD hS => ?_)
  obtain ⟨e1, e2, e3⟩ := hp
  rw [e2, e3] at hP hD
  rw [e1]
  refine lv_iload hx hb d_law_226 (lv_at hl 0 rfl) ?_
  refine lv_icmp_eq hx hb d_law_228 (tgt := 233) rfl (fun _ => ?_) (fun hn => absurd z hn)
  refine lv_goto hx hb d_law_233 (tgt := 1080) rfl ?_
  exact nx f I' J' A' B' _ _ ls i' hP hD hS (lv_sub hl [1, 2, 3, 4, 5] rfl)
set_option maxHeartbeats 4000000 in
set_option maxRecDepth 100000 in
theorem lw_member (C0 : lwC p l s m c b L xs D κ) {ao i cells slots : Nat} {Θ Φ : Nat → Nat} {Q : State → Prop} (hi : i + 4 ≤ L) (hc : cells + 1 ≤ room_1.cells ∧ slots + 6 ≤ room_1.slots) (nx : lwN p l e s m below meth c b D κ Θ Φ ao i (cells + 1) (slots + 6) Q 1080) : lwN p l e s m below meth c b D κ Θ Φ ao i cells slots Q 236 := by
  intro f I J A B H locs ls hI hP hD hS hl
  obtain ⟨C, hT, hfl, hX, hbl, hL⟩ := C0
  have hx := C.1.1
  have hb := C.1.2.1
  have hown := C.1.2.2.2.1
  have hts := C.1.2.2.2.2
  have hc1 : cells + 0 ≤ room_1.cells ∧ slots + 0 ≤ room_1.slots := ⟨by omega, by omega⟩
  have hc2 : (cells + 1) + 0 ≤ room_1.cells ∧ (slots + 6) + 0 ≤ room_1.slots := hc
  obtain ⟨v, I', J', A', B', g1, g2, i', z⟩ := e_member hI (xs (i + 1)) (xs (i + 2))
  refine lv_aload_n hx hb d_law_236 rfl (lv_at hl 3 rfl) ?_
  refine lv_aload_n hx hb d_law_237 rfl (lv_at hl 4 rfl) ?_
  refine lv_iload hx hb d_law_238 (lv_at hl 0 rfl) ?_
  refine lv_iconst (v := (1 : Int32)) hx hb d_law_240 (by decide) ?_
  refine lv_iadd hx hb d_law_241 ?_
  refine y_sld (k := 1) hx hb hX hbl hS (by omega) hL (nI_add i 1) d_law_242 ?_
  refine lv_aload_n hx hb d_law_243 rfl (lv_at hl 4 rfl) ?_
  refine lv_iload hx hb d_law_244 (lv_at hl 0 rfl) ?_
  refine lv_iconst (v := (2 : Int32)) hx hb d_law_246 (by decide) ?_
  refine lv_iadd hx hb d_law_247 ?_
  refine y_sld (k := 2) hx hb hX hbl hS (by omega) hL (nI_add i 2) d_law_248 ?_
  refine y_Hi (k := 3) (n := 52) (Θ := Θ) (X := eC Θ κ) (Xs := xw 34 Φ (eM Φ κ) A B) (Zs := wO κ ao f) (As := [.ref (Θ 0), .int (xs (i + 1)), .int (xs (i + 2))]) (rest := []) C hT hP hD hS (fun hΘ => c_Lw_member l hfl D κ hΘ H.size (xs (i + 1)) (xs (i + 2)) I J (fun r I1 J1 => r = v ∧ I1 = I' ∧ J1 = J') (g1 _ ⟨rfl, rfl, rfl⟩)) k_418 k_0 ⟨⟨by decide +kernel, by decide +kernel⟩, by decide +kernel⟩ k_417 k_416 rfl rfl ⟨(Nat.le_of_ble_eq_true rfl), (Nat.le_of_ble_eq_true rfl)⟩ rfl hl.1 rfl (Nat.le_of_ble_eq_true rfl) d_law_249 hc (fun r I1 J1 H locs hp hP hD hS => ?_)
  obtain ⟨er, eI, eJ⟩ := hp
  rw [eI, eJ] at hP hD
  rw [er]
  refine lv_istore hx hb d_law_252 hl (Nat.le_of_ble_eq_true rfl) (lv' := [(5, .int v), (4, .int (nI i)), (3, .ref ao), (2, .ref (Φ 0)), (1, .ref (Θ 0)), (0, .ref b)]) rfl (fun ls hl => ?_)
  refine lv_aload_n hx hb d_law_254 rfl (lv_at hl 3 rfl) ?_
  refine lv_aload_n hx hb d_law_255 rfl (lv_at hl 5 rfl) ?_
  refine lv_iload hx hb d_law_256 (lv_at hl 1 rfl) ?_
  refine lv_iconst (v := (1 : Int32)) hx hb d_law_258 (by decide) ?_
  refine lv_iadd hx hb d_law_259 ?_
  refine y_sld (k := 1) hx hb hX hbl hS (by omega) hL (nI_add i 1) d_law_260 ?_
  refine lv_aload_n hx hb d_law_261 rfl (lv_at hl 5 rfl) ?_
  refine lv_iload hx hb d_law_262 (lv_at hl 1 rfl) ?_
  refine lv_iconst (v := (2 : Int32)) hx hb d_law_264 (by decide) ?_
  refine lv_iadd hx hb d_law_265 ?_
  refine y_sld (k := 2) hx hb hX hbl hS (by omega) hL (nI_add i 2) d_law_266 ?_
  refine y_Vv (n := 34) (Θ := Φ) (X := eM Φ κ) (Xs := []) (Zs := xw 52 Θ (eC Θ κ) I' J' ++ wO κ ao f) (As := [.int (xs (i + 1)), .int (xs (i + 2))]) (rest := []) C hP hD hS (Nat.le_of_ble_eq_true rfl) (eM_Md _ _) rfl (fun hΘ => c_Md_member l D κ hΘ H.size (xs (i + 1)) (xs (i + 2)) A B (fun A1 B1 => A1 = A' ∧ B1 = B') (g2 _ ⟨rfl, rfl⟩)) q_Md_member k_894 k_895 k_893 rfl rfl ⟨(Nat.le_of_ble_eq_true rfl), (Nat.le_of_ble_eq_true rfl)⟩ rfl hl.1 rfl (Nat.le_of_ble_eq_true rfl) d_law_267 hc2 (fun A1 B1 H locs hp hP hD hS => ?_)
  obtain ⟨e1, e2⟩ := hp
  rw [e1, e2] at hP hD
  refine lv_aload_n hx hb d_law_270 rfl (lv_at hl 3 rfl) ?_
  refine y_Vi (n := 34) (Θ := Φ) (X := eM Φ κ) (Xs := []) (Zs := xw 52 Θ (eC Θ κ) I' J' ++ wO κ ao f) (As := []) (rest := []) C hP hD hS (Nat.le_of_ble_eq_true rfl) (eM_Md _ _) rfl (fun hΘ => c_Md_thrown l D κ hΘ H.size  A' B' (fun r2 A2 B2 => r2 = A' 0 0 ∧ A2 = A' ∧ B2 = B') ⟨rfl, rfl, rfl⟩) q_Md_thrown k_879 k_880 k_878 rfl rfl ⟨(Nat.le_of_ble_eq_true rfl), (Nat.le_of_ble_eq_true rfl)⟩ rfl hl.1 rfl (Nat.le_of_ble_eq_true rfl) d_law_271 hc2 (fun r2 A2 B2 H locs hp hP hD hS => ?_)
  obtain ⟨e1, e2, e3⟩ := hp
  rw [e2, e3] at hP hD
  rw [e1]
  refine lv_iload hx hb d_law_274 (lv_at hl 0 rfl) ?_
  refine lv_icmp_eq hx hb d_law_276 (tgt := 281) rfl (fun _ => ?_) (fun hn => absurd z hn)
  refine lv_goto hx hb d_law_281 (tgt := 1080) rfl ?_
  exact nx f I' J' A' B' _ _ ls i' hP hD hS (lv_sub hl [1, 2, 3, 4, 5] rfl)
set_option maxHeartbeats 4000000 in
set_option maxRecDepth 100000 in
theorem lw_move (C0 : lwC p l s m c b L xs D κ) {ao i cells slots : Nat} {Θ Φ : Nat → Nat} {Q : State → Prop} (hi : i + 4 ≤ L) (hc : cells + 1 ≤ room_1.cells ∧ slots + 6 ≤ room_1.slots) (nx : lwN p l e s m below meth c b D κ Θ Φ ao i (cells + 1) (slots + 6) Q 1080) : lwN p l e s m below meth c b D κ Θ Φ ao i cells slots Q 284 := by
  intro f I J A B H locs ls hI hP hD hS hl
  obtain ⟨C, hT, hfl, hX, hbl, hL⟩ := C0
  have hx := C.1.1
  have hb := C.1.2.1
  have hown := C.1.2.2.2.1
  have hts := C.1.2.2.2.2
  have hc1 : cells + 0 ≤ room_1.cells ∧ slots + 0 ≤ room_1.slots := ⟨by omega, by omega⟩
  have hc2 : (cells + 1) + 0 ≤ room_1.cells ∧ (slots + 6) + 0 ≤ room_1.slots := hc
  obtain ⟨v, I', J', A', B', g1, g2, i', z⟩ := e_move hI (xs (i + 1)) (xs (i + 2))
  refine lv_aload_n hx hb d_law_284 rfl (lv_at hl 3 rfl) ?_
  refine lv_aload_n hx hb d_law_285 rfl (lv_at hl 4 rfl) ?_
  refine lv_iload hx hb d_law_286 (lv_at hl 0 rfl) ?_
  refine lv_iconst (v := (1 : Int32)) hx hb d_law_288 (by decide) ?_
  refine lv_iadd hx hb d_law_289 ?_
  refine y_sld (k := 1) hx hb hX hbl hS (by omega) hL (nI_add i 1) d_law_290 ?_
  refine lv_aload_n hx hb d_law_291 rfl (lv_at hl 4 rfl) ?_
  refine lv_iload hx hb d_law_292 (lv_at hl 0 rfl) ?_
  refine lv_iconst (v := (2 : Int32)) hx hb d_law_294 (by decide) ?_
  refine lv_iadd hx hb d_law_295 ?_
  refine y_sld (k := 2) hx hb hX hbl hS (by omega) hL (nI_add i 2) d_law_296 ?_
  refine y_Hi (k := 3) (n := 52) (Θ := Θ) (X := eC Θ κ) (Xs := xw 34 Φ (eM Φ κ) A B) (Zs := wO κ ao f) (As := [.ref (Θ 0), .int (xs (i + 1)), .int (xs (i + 2))]) (rest := []) C hT hP hD hS (fun hΘ => c_Lw_move l hfl D κ hΘ H.size (xs (i + 1)) (xs (i + 2)) I J (fun r I1 J1 => r = v ∧ I1 = I' ∧ J1 = J') (g1 _ ⟨rfl, rfl, rfl⟩)) k_425 k_0 ⟨⟨by decide +kernel, by decide +kernel⟩, by decide +kernel⟩ k_424 k_423 rfl rfl ⟨(Nat.le_of_ble_eq_true rfl), (Nat.le_of_ble_eq_true rfl)⟩ rfl hl.1 rfl (Nat.le_of_ble_eq_true rfl) d_law_297 hc (fun r I1 J1 H locs hp hP hD hS => ?_)
  obtain ⟨er, eI, eJ⟩ := hp
  rw [eI, eJ] at hP hD
  rw [er]
  refine lv_istore hx hb d_law_300 hl (Nat.le_of_ble_eq_true rfl) (lv' := [(5, .int v), (4, .int (nI i)), (3, .ref ao), (2, .ref (Φ 0)), (1, .ref (Θ 0)), (0, .ref b)]) rfl (fun ls hl => ?_)
  refine lv_aload_n hx hb d_law_302 rfl (lv_at hl 3 rfl) ?_
  refine lv_aload_n hx hb d_law_303 rfl (lv_at hl 5 rfl) ?_
  refine lv_iload hx hb d_law_304 (lv_at hl 1 rfl) ?_
  refine lv_iconst (v := (1 : Int32)) hx hb d_law_306 (by decide) ?_
  refine lv_iadd hx hb d_law_307 ?_
  refine y_sld (k := 1) hx hb hX hbl hS (by omega) hL (nI_add i 1) d_law_308 ?_
  refine lv_aload_n hx hb d_law_309 rfl (lv_at hl 5 rfl) ?_
  refine lv_iload hx hb d_law_310 (lv_at hl 1 rfl) ?_
  refine lv_iconst (v := (2 : Int32)) hx hb d_law_312 (by decide) ?_
  refine lv_iadd hx hb d_law_313 ?_
  refine y_sld (k := 2) hx hb hX hbl hS (by omega) hL (nI_add i 2) d_law_314 ?_
  refine y_Vv (n := 34) (Θ := Φ) (X := eM Φ κ) (Xs := []) (Zs := xw 52 Θ (eC Θ κ) I' J' ++ wO κ ao f) (As := [.int (xs (i + 1)), .int (xs (i + 2))]) (rest := []) C hP hD hS (Nat.le_of_ble_eq_true rfl) (eM_Md _ _) rfl (fun hΘ => c_Md_move l D κ hΘ H.size (xs (i + 1)) (xs (i + 2)) A B (fun A1 B1 => A1 = A' ∧ B1 = B') (g2 _ ⟨rfl, rfl⟩)) q_Md_move k_898 k_899 k_897 rfl rfl ⟨(Nat.le_of_ble_eq_true rfl), (Nat.le_of_ble_eq_true rfl)⟩ rfl hl.1 rfl (Nat.le_of_ble_eq_true rfl) d_law_315 hc2 (fun A1 B1 H locs hp hP hD hS => ?_)
  obtain ⟨e1, e2⟩ := hp
  rw [e1, e2] at hP hD
  refine lv_aload_n hx hb d_law_318 rfl (lv_at hl 3 rfl) ?_
  refine y_Vi (n := 34) (Θ := Φ) (X := eM Φ κ) (Xs := []) (Zs := xw 52 Θ (eC Θ κ) I' J' ++ wO κ ao f) (As := []) (rest := []) C hP hD hS (Nat.le_of_ble_eq_true rfl) (eM_Md _ _) rfl (fun hΘ => c_Md_thrown l D κ hΘ H.size  A' B' (fun r2 A2 B2 => r2 = A' 0 0 ∧ A2 = A' ∧ B2 = B') ⟨rfl, rfl, rfl⟩) q_Md_thrown k_879 k_880 k_878 rfl rfl ⟨(Nat.le_of_ble_eq_true rfl), (Nat.le_of_ble_eq_true rfl)⟩ rfl hl.1 rfl (Nat.le_of_ble_eq_true rfl) d_law_319 hc2 (fun r2 A2 B2 H locs hp hP hD hS => ?_)
  obtain ⟨e1, e2, e3⟩ := hp
  rw [e2, e3] at hP hD
  rw [e1]
  refine lv_iload hx hb d_law_322 (lv_at hl 0 rfl) ?_
  refine lv_icmp_eq hx hb d_law_324 (tgt := 329) rfl (fun _ => ?_) (fun hn => absurd z hn)
  refine lv_goto hx hb d_law_329 (tgt := 1080) rfl ?_
  exact nx f I' J' A' B' _ _ ls i' hP hD hS (lv_sub hl [1, 2, 3, 4, 5] rfl)
set_option maxHeartbeats 4000000 in
set_option maxRecDepth 100000 in
theorem lw_register (C0 : lwC p l s m c b L xs D κ) {ao i cells slots : Nat} {Θ Φ : Nat → Nat} {Q : State → Prop} (hi : i + 4 ≤ L) (hc : cells + 1 ≤ room_1.cells ∧ slots + 6 ≤ room_1.slots) (nx : lwN p l e s m below meth c b D κ Θ Φ ao i (cells + 1) (slots + 6) Q 1080) : lwN p l e s m below meth c b D κ Θ Φ ao i cells slots Q 332 := by
  intro f I J A B H locs ls hI hP hD hS hl
  obtain ⟨C, hT, hfl, hX, hbl, hL⟩ := C0
  have hx := C.1.1
  have hb := C.1.2.1
  have hown := C.1.2.2.2.1
  have hts := C.1.2.2.2.2
  have hc1 : cells + 0 ≤ room_1.cells ∧ slots + 0 ≤ room_1.slots := ⟨by omega, by omega⟩
  have hc2 : (cells + 1) + 0 ≤ room_1.cells ∧ (slots + 6) + 0 ≤ room_1.slots := hc
  obtain ⟨v, I', J', A', B', g1, g2, i', z⟩ := e_register hI (xs (i + 1))
  refine lv_aload_n hx hb d_law_332 rfl (lv_at hl 3 rfl) ?_
  refine lv_aload_n hx hb d_law_333 rfl (lv_at hl 4 rfl) ?_
  refine lv_iload hx hb d_law_334 (lv_at hl 0 rfl) ?_
  refine lv_iconst (v := (1 : Int32)) hx hb d_law_336 (by decide) ?_
  refine lv_iadd hx hb d_law_337 ?_
  refine y_sld (k := 1) hx hb hX hbl hS (by omega) hL (nI_add i 1) d_law_338 ?_
  refine y_Hi (k := 2) (n := 52) (Θ := Θ) (X := eC Θ κ) (Xs := xw 34 Φ (eM Φ κ) A B) (Zs := wO κ ao f) (As := [.ref (Θ 0), .int (xs (i + 1))]) (rest := []) C hT hP hD hS (fun hΘ => c_Lw_register l hfl D κ hΘ H.size (xs (i + 1)) I J (fun r I1 J1 => r = v ∧ I1 = I' ∧ J1 = J') (g1 _ ⟨rfl, rfl, rfl⟩)) k_448 k_0 ⟨⟨by decide +kernel, by decide +kernel⟩, by decide +kernel⟩ k_447 k_446 rfl rfl ⟨(Nat.le_of_ble_eq_true rfl), (Nat.le_of_ble_eq_true rfl)⟩ rfl hl.1 rfl (Nat.le_of_ble_eq_true rfl) d_law_339 hc (fun r I1 J1 H locs hp hP hD hS => ?_)
  obtain ⟨er, eI, eJ⟩ := hp
  rw [eI, eJ] at hP hD
  rw [er]
  refine lv_istore hx hb d_law_342 hl (Nat.le_of_ble_eq_true rfl) (lv' := [(5, .int v), (4, .int (nI i)), (3, .ref ao), (2, .ref (Φ 0)), (1, .ref (Θ 0)), (0, .ref b)]) rfl (fun ls hl => ?_)
  refine lv_aload_n hx hb d_law_344 rfl (lv_at hl 3 rfl) ?_
  refine lv_aload_n hx hb d_law_345 rfl (lv_at hl 5 rfl) ?_
  refine lv_iload hx hb d_law_346 (lv_at hl 1 rfl) ?_
  refine lv_iconst (v := (1 : Int32)) hx hb d_law_348 (by decide) ?_
  refine lv_iadd hx hb d_law_349 ?_
  refine y_sld (k := 1) hx hb hX hbl hS (by omega) hL (nI_add i 1) d_law_350 ?_
  refine y_Vv (n := 34) (Θ := Φ) (X := eM Φ κ) (Xs := []) (Zs := xw 52 Θ (eC Θ κ) I' J' ++ wO κ ao f) (As := [.int (xs (i + 1))]) (rest := []) C hP hD hS (Nat.le_of_ble_eq_true rfl) (eM_Md _ _) rfl (fun hΘ => c_Md_register l D κ hΘ H.size (xs (i + 1)) A B (fun A1 B1 => A1 = A' ∧ B1 = B') (g2 _ ⟨rfl, rfl⟩)) q_Md_register k_910 k_911 k_909 rfl rfl ⟨(Nat.le_of_ble_eq_true rfl), (Nat.le_of_ble_eq_true rfl)⟩ rfl hl.1 rfl (Nat.le_of_ble_eq_true rfl) d_law_351 hc2 (fun A1 B1 H locs hp hP hD hS => ?_)
  obtain ⟨e1, e2⟩ := hp
  rw [e1, e2] at hP hD
  refine lv_aload_n hx hb d_law_354 rfl (lv_at hl 3 rfl) ?_
  refine y_Vi (n := 34) (Θ := Φ) (X := eM Φ κ) (Xs := []) (Zs := xw 52 Θ (eC Θ κ) I' J' ++ wO κ ao f) (As := []) (rest := []) C hP hD hS (Nat.le_of_ble_eq_true rfl) (eM_Md _ _) rfl (fun hΘ => c_Md_thrown l D κ hΘ H.size  A' B' (fun r2 A2 B2 => r2 = A' 0 0 ∧ A2 = A' ∧ B2 = B') ⟨rfl, rfl, rfl⟩) q_Md_thrown k_879 k_880 k_878 rfl rfl ⟨(Nat.le_of_ble_eq_true rfl), (Nat.le_of_ble_eq_true rfl)⟩ rfl hl.1 rfl (Nat.le_of_ble_eq_true rfl) d_law_355 hc2 (fun r2 A2 B2 H locs hp hP hD hS => ?_)
  obtain ⟨e1, e2, e3⟩ := hp
  rw [e2, e3] at hP hD
  rw [e1]
  refine lv_iload hx hb d_law_358 (lv_at hl 0 rfl) ?_
  refine lv_icmp_eq hx hb d_law_360 (tgt := 365) rfl (fun _ => ?_) (fun hn => absurd z hn)
  refine lv_goto hx hb d_law_365 (tgt := 1080) rfl ?_
  exact nx f I' J' A' B' _ _ ls i' hP hD hS (lv_sub hl [1, 2, 3, 4, 5] rfl)
set_option maxHeartbeats 4000000 in
set_option maxRecDepth 100000 in
theorem lw_press (C0 : lwC p l s m c b L xs D κ) {ao i cells slots : Nat} {Θ Φ : Nat → Nat} {Q : State → Prop} (hi : i + 4 ≤ L) (hc : cells + 1 ≤ room_1.cells ∧ slots + 6 ≤ room_1.slots) (nx : lwN p l e s m below meth c b D κ Θ Φ ao i (cells + 1) (slots + 6) Q 1080) : lwN p l e s m below meth c b D κ Θ Φ ao i cells slots Q 368 := by
  intro f I J A B H locs ls hI hP hD hS hl
  obtain ⟨C, hT, hfl, hX, hbl, hL⟩ := C0
  have hx := C.1.1
  have hb := C.1.2.1
  have hown := C.1.2.2.2.1
  have hts := C.1.2.2.2.2
  have hc1 : cells + 0 ≤ room_1.cells ∧ slots + 0 ≤ room_1.slots := ⟨by omega, by omega⟩
  have hc2 : (cells + 1) + 0 ≤ room_1.cells ∧ (slots + 6) + 0 ≤ room_1.slots := hc
  obtain ⟨v, I', J', A', B', g1, g2, i', z⟩ := e_press hI (xs (i + 1)) (xs (i + 2)) (xs (i + 3))
  refine lv_aload_n hx hb d_law_368 rfl (lv_at hl 3 rfl) ?_
  refine lv_aload_n hx hb d_law_369 rfl (lv_at hl 4 rfl) ?_
  refine lv_iload hx hb d_law_370 (lv_at hl 0 rfl) ?_
  refine lv_iconst (v := (1 : Int32)) hx hb d_law_372 (by decide) ?_
  refine lv_iadd hx hb d_law_373 ?_
  refine y_sld (k := 1) hx hb hX hbl hS (by omega) hL (nI_add i 1) d_law_374 ?_
  refine lv_aload_n hx hb d_law_375 rfl (lv_at hl 4 rfl) ?_
  refine lv_iload hx hb d_law_376 (lv_at hl 0 rfl) ?_
  refine lv_iconst (v := (2 : Int32)) hx hb d_law_378 (by decide) ?_
  refine lv_iadd hx hb d_law_379 ?_
  refine y_sld (k := 2) hx hb hX hbl hS (by omega) hL (nI_add i 2) d_law_380 ?_
  refine lv_aload_n hx hb d_law_381 rfl (lv_at hl 4 rfl) ?_
  refine lv_iload hx hb d_law_382 (lv_at hl 0 rfl) ?_
  refine lv_iconst (v := (3 : Int32)) hx hb d_law_384 (by decide) ?_
  refine lv_iadd hx hb d_law_385 ?_
  refine y_sld (k := 3) hx hb hX hbl hS (by omega) hL (nI_add i 3) d_law_386 ?_
  refine y_Hi (k := 4) (n := 52) (Θ := Θ) (X := eC Θ κ) (Xs := xw 34 Φ (eM Φ κ) A B) (Zs := wO κ ao f) (As := [.ref (Θ 0), .int (xs (i + 1)), .int (xs (i + 2)), .int (xs (i + 3))]) (rest := []) C hT hP hD hS (fun hΘ => c_Lw_press l hfl D κ hΘ H.size (xs (i + 1)) (xs (i + 2)) (xs (i + 3)) I J (fun r I1 J1 => r = v ∧ I1 = I' ∧ J1 = J') (g1 _ ⟨rfl, rfl, rfl⟩)) k_483 k_0 ⟨⟨by decide +kernel, by decide +kernel⟩, by decide +kernel⟩ k_482 k_481 rfl rfl ⟨(Nat.le_of_ble_eq_true rfl), (Nat.le_of_ble_eq_true rfl)⟩ rfl hl.1 rfl (Nat.le_of_ble_eq_true rfl) d_law_387 hc (fun r I1 J1 H locs hp hP hD hS => ?_)
  obtain ⟨er, eI, eJ⟩ := hp
  rw [eI, eJ] at hP hD
  rw [er]
  refine lv_istore hx hb d_law_390 hl (Nat.le_of_ble_eq_true rfl) (lv' := [(5, .int v), (4, .int (nI i)), (3, .ref ao), (2, .ref (Φ 0)), (1, .ref (Θ 0)), (0, .ref b)]) rfl (fun ls hl => ?_)
  refine lv_aload_n hx hb d_law_392 rfl (lv_at hl 3 rfl) ?_
  refine lv_aload_n hx hb d_law_393 rfl (lv_at hl 5 rfl) ?_
  refine lv_iload hx hb d_law_394 (lv_at hl 1 rfl) ?_
  refine lv_iconst (v := (1 : Int32)) hx hb d_law_396 (by decide) ?_
  refine lv_iadd hx hb d_law_397 ?_
  refine y_sld (k := 1) hx hb hX hbl hS (by omega) hL (nI_add i 1) d_law_398 ?_
  refine lv_aload_n hx hb d_law_399 rfl (lv_at hl 5 rfl) ?_
  refine lv_iload hx hb d_law_400 (lv_at hl 1 rfl) ?_
  refine lv_iconst (v := (2 : Int32)) hx hb d_law_402 (by decide) ?_
  refine lv_iadd hx hb d_law_403 ?_
  refine y_sld (k := 2) hx hb hX hbl hS (by omega) hL (nI_add i 2) d_law_404 ?_
  refine lv_aload_n hx hb d_law_405 rfl (lv_at hl 5 rfl) ?_
  refine lv_iload hx hb d_law_406 (lv_at hl 1 rfl) ?_
  refine lv_iconst (v := (3 : Int32)) hx hb d_law_408 (by decide) ?_
  refine lv_iadd hx hb d_law_409 ?_
  refine y_sld (k := 3) hx hb hX hbl hS (by omega) hL (nI_add i 3) d_law_410 ?_
  refine y_Vv (n := 34) (Θ := Φ) (X := eM Φ κ) (Xs := []) (Zs := xw 52 Θ (eC Θ κ) I' J' ++ wO κ ao f) (As := [.int (xs (i + 1)), .int (xs (i + 2)), .int (xs (i + 3))]) (rest := []) C hP hD hS (Nat.le_of_ble_eq_true rfl) (eM_Md _ _) rfl (fun hΘ => c_Md_press l D κ hΘ H.size (xs (i + 1)) (xs (i + 2)) (xs (i + 3)) A B (fun A1 B1 => A1 = A' ∧ B1 = B') (g2 _ ⟨rfl, rfl⟩)) q_Md_press k_918 k_919 k_917 rfl rfl ⟨(Nat.le_of_ble_eq_true rfl), (Nat.le_of_ble_eq_true rfl)⟩ rfl hl.1 rfl (Nat.le_of_ble_eq_true rfl) d_law_411 hc2 (fun A1 B1 H locs hp hP hD hS => ?_)
  obtain ⟨e1, e2⟩ := hp
  rw [e1, e2] at hP hD
  refine lv_aload_n hx hb d_law_414 rfl (lv_at hl 3 rfl) ?_
  refine y_Vi (n := 34) (Θ := Φ) (X := eM Φ κ) (Xs := []) (Zs := xw 52 Θ (eC Θ κ) I' J' ++ wO κ ao f) (As := []) (rest := []) C hP hD hS (Nat.le_of_ble_eq_true rfl) (eM_Md _ _) rfl (fun hΘ => c_Md_thrown l D κ hΘ H.size  A' B' (fun r2 A2 B2 => r2 = A' 0 0 ∧ A2 = A' ∧ B2 = B') ⟨rfl, rfl, rfl⟩) q_Md_thrown k_879 k_880 k_878 rfl rfl ⟨(Nat.le_of_ble_eq_true rfl), (Nat.le_of_ble_eq_true rfl)⟩ rfl hl.1 rfl (Nat.le_of_ble_eq_true rfl) d_law_415 hc2 (fun r2 A2 B2 H locs hp hP hD hS => ?_)
  obtain ⟨e1, e2, e3⟩ := hp
  rw [e2, e3] at hP hD
  rw [e1]
  refine lv_iload hx hb d_law_418 (lv_at hl 0 rfl) ?_
  refine lv_icmp_eq hx hb d_law_420 (tgt := 425) rfl (fun _ => ?_) (fun hn => absurd z hn)
  refine lv_goto hx hb d_law_425 (tgt := 1080) rfl ?_
  exact nx f I' J' A' B' _ _ ls i' hP hD hS (lv_sub hl [1, 2, 3, 4, 5] rfl)
end LB
