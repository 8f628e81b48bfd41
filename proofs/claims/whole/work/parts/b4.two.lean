/-! the law's cases -/
theorem k_489 : (Jvm.Cond.methodLink "TrunkCellsLaw" (87 : Nat) y_Lw_release) ∈ WS := WS_of 489 (by decide +kernel) (by decide +kernel)
theorem k_490 : (Jvm.Cond.static y_Lw_release) ∈ WS := WS_of 490 (by decide +kernel) (by decide +kernel)
theorem k_497 : (Jvm.Cond.methodLink "TrunkCellsLaw" (90 : Nat) y_Lw_send) ∈ WS := WS_of 497 (by decide +kernel) (by decide +kernel)
theorem k_498 : (Jvm.Cond.static y_Lw_send) ∈ WS := WS_of 498 (by decide +kernel) (by decide +kernel)
theorem k_508 : (Jvm.Cond.methodLink "TrunkCellsLaw" (93 : Nat) y_Lw_speak) ∈ WS := WS_of 508 (by decide +kernel) (by decide +kernel)
theorem k_509 : (Jvm.Cond.static y_Lw_speak) ∈ WS := WS_of 509 (by decide +kernel) (by decide +kernel)
theorem k_516 : (Jvm.Cond.methodLink "TrunkCellsLaw" (96 : Nat) y_Lw_draw) ∈ WS := WS_of 516 (by decide +kernel) (by decide +kernel)
theorem k_517 : (Jvm.Cond.static y_Lw_draw) ∈ WS := WS_of 517 (by decide +kernel) (by decide +kernel)
theorem k_545 : (Jvm.Cond.methodLink "TrunkCellsLaw" (101 : Nat) y_Lw_fault) ∈ WS := WS_of 545 (by decide +kernel) (by decide +kernel)
theorem k_546 : (Jvm.Cond.static y_Lw_fault) ∈ WS := WS_of 546 (by decide +kernel) (by decide +kernel)
theorem k_553 : (Jvm.Cond.methodLink "TrunkCellsLaw" (105 : Nat) y_Lw_tick) ∈ WS := WS_of 553 (by decide +kernel) (by decide +kernel)
theorem k_921 : (Jvm.Cond.methodLink "TrunkCellsLaw" (89 : Nat) y_Md_release) ∈ WS := WS_of 921 (by decide +kernel) (by decide +kernel)
theorem k_922 : (Jvm.Cond.instanceMethod y_Md_release) ∈ WS := WS_of 922 (by decide +kernel) (by decide +kernel)
theorem k_923 : (Jvm.Cond.selects "TrunkCellsModel" y_Md_release y_Md_release) ∈ WS := WS_of 923 (by decide +kernel) (by decide +kernel)
theorem k_925 : (Jvm.Cond.methodLink "TrunkCellsLaw" (92 : Nat) y_Md_send) ∈ WS := WS_of 925 (by decide +kernel) (by decide +kernel)
theorem k_926 : (Jvm.Cond.instanceMethod y_Md_send) ∈ WS := WS_of 926 (by decide +kernel) (by decide +kernel)
theorem k_927 : (Jvm.Cond.selects "TrunkCellsModel" y_Md_send y_Md_send) ∈ WS := WS_of 927 (by decide +kernel) (by decide +kernel)
theorem k_929 : (Jvm.Cond.methodLink "TrunkCellsLaw" (95 : Nat) y_Md_speak) ∈ WS := WS_of 929 (by decide +kernel) (by decide +kernel)
theorem k_930 : (Jvm.Cond.instanceMethod y_Md_speak) ∈ WS := WS_of 930 (by decide +kernel) (by decide +kernel)
theorem k_931 : (Jvm.Cond.selects "TrunkCellsModel" y_Md_speak y_Md_speak) ∈ WS := WS_of 931 (by decide +kernel) (by decide +kernel)
theorem k_934 : (Jvm.Cond.methodLink "TrunkCellsLaw" (98 : Nat) y_Md_draw) ∈ WS := WS_of 934 (by decide +kernel) (by decide +kernel)
theorem k_935 : (Jvm.Cond.instanceMethod y_Md_draw) ∈ WS := WS_of 935 (by decide +kernel) (by decide +kernel)
theorem k_936 : (Jvm.Cond.selects "TrunkCellsModel" y_Md_draw y_Md_draw) ∈ WS := WS_of 936 (by decide +kernel) (by decide +kernel)
theorem k_938 : (Jvm.Cond.methodLink "TrunkCellsLaw" (104 : Nat) y_Md_fault) ∈ WS := WS_of 938 (by decide +kernel) (by decide +kernel)
theorem k_939 : (Jvm.Cond.instanceMethod y_Md_fault) ∈ WS := WS_of 939 (by decide +kernel) (by decide +kernel)
theorem k_940 : (Jvm.Cond.selects "TrunkCellsModel" y_Md_fault y_Md_fault) ∈ WS := WS_of 940 (by decide +kernel) (by decide +kernel)
theorem k_943 : (Jvm.Cond.methodLink "TrunkCellsLaw" (108 : Nat) y_Md_tick) ∈ WS := WS_of 943 (by decide +kernel) (by decide +kernel)
theorem k_944 : (Jvm.Cond.instanceMethod y_Md_tick) ∈ WS := WS_of 944 (by decide +kernel) (by decide +kernel)
theorem k_945 : (Jvm.Cond.selects "TrunkCellsModel" y_Md_tick y_Md_tick) ∈ WS := WS_of 945 (by decide +kernel) (by decide +kernel)
theorem k_1070 : (Jvm.Cond.constantLong "TrunkCellsLaw" (99 : Nat) (4294967295 : Int64)) ∈ WS := WS_of 1070 (by decide +kernel) (by decide +kernel)
section LB
variable {p : Program} {l : Launch} {e : Env} {s : State} {m : MethodId} {below : List Frame} {meth : Method} {c : Code} {b L : Nat} {xs : Nat → Int32} {D : va_G} {κ : Nat → ClassId}
set_option maxHeartbeats 4000000 in
set_option maxRecDepth 100000 in
theorem lw_release (C0 : lwC p l s m c b L xs D κ) {ao i cells slots : Nat} {Θ Φ : Nat → Nat} {Q : State → Prop} (hi : i + 4 ≤ L) (hc : cells + 1 ≤ room_1.cells ∧ slots + 6 ≤ room_1.slots) (nx : lwN p l e s m below meth c b D κ Θ Φ ao i (cells + 1) (slots + 6) Q 1080) : lwN p l e s m below meth c b D κ Θ Φ ao i cells slots Q 428 := by
  intro f I J A B H locs ls hI hP hD hS hl
  obtain ⟨C, hT, hfl, hX, hbl, hL⟩ := C0
  have hx := C.1.1
  have hb := C.1.2.1
  have hown := C.1.2.2.2.1
  have hts := C.1.2.2.2.2
  have hc1 : cells + 0 ≤ room_1.cells ∧ slots + 0 ≤ room_1.slots := ⟨by omega, by omega⟩
  have hc2 : (cells + 1) + 0 ≤ room_1.cells ∧ (slots + 6) + 0 ≤ room_1.slots := hc
  obtain ⟨v, I', J', A', B', g1, g2, i', z⟩ := e_release hI (xs (i + 1))
  refine lv_aload_n hx hb d_law_428 rfl (lv_at hl 3 rfl) ?_
  refine lv_aload_n hx hb d_law_429 rfl (lv_at hl 4 rfl) ?_
  refine lv_iload hx hb d_law_430 (lv_at hl 0 rfl) ?_
  refine lv_iconst (v := (1 : Int32)) hx hb d_law_432 (by decide) ?_
  refine lv_iadd hx hb d_law_433 ?_
  refine y_sld (k := 1) hx hb hX hbl hS (by omega) hL (nI_add i 1) d_law_434 ?_
  refine y_Hi (k := 2) (n := 52) (Θ := Θ) (X := eC Θ κ) (Xs := xw 34 Φ (eM Φ κ) A B) (Zs := wO κ ao f) (As := [.ref (Θ 0), .int (xs (i + 1))]) (rest := []) C hT hP hD hS (fun hΘ => c_Lw_release l hfl D κ hΘ H.size (xs (i + 1)) I J (fun r I1 J1 => r = v ∧ I1 = I' ∧ J1 = J') (g1 _ ⟨rfl, rfl, rfl⟩)) k_491 k_0 ⟨⟨by decide +kernel, by decide +kernel⟩, by decide +kernel⟩ k_490 k_489 rfl rfl ⟨(Nat.le_of_ble_eq_true rfl), (Nat.le_of_ble_eq_true rfl)⟩ rfl hl.1 rfl (Nat.le_of_ble_eq_true rfl) d_law_435 hc (fun r I1 J1 H locs hp hP hD hS => ?_)
  obtain ⟨er, eI, eJ⟩ := hp
  rw [eI, eJ] at hP hD
  rw [er]
  refine lv_istore hx hb d_law_438 hl (Nat.le_of_ble_eq_true rfl) (lv' := [(5, .int v), (4, .int (nI i)), (3, .ref ao), (2, .ref (Φ 0)), (1, .ref (Θ 0)), (0, .ref b)]) rfl (fun ls hl => ?_)
  refine lv_aload_n hx hb d_law_440 rfl (lv_at hl 3 rfl) ?_
  refine lv_aload_n hx hb d_law_441 rfl (lv_at hl 5 rfl) ?_
  refine lv_iload hx hb d_law_442 (lv_at hl 1 rfl) ?_
  refine lv_iconst (v := (1 : Int32)) hx hb d_law_444 (by decide) ?_
  refine lv_iadd hx hb d_law_445 ?_
  refine y_sld (k := 1) hx hb hX hbl hS (by omega) hL (nI_add i 1) d_law_446 ?_
  refine y_Vv (n := 34) (Θ := Φ) (X := eM Φ κ) (Xs := []) (Zs := xw 52 Θ (eC Θ κ) I' J' ++ wO κ ao f) (As := [.int (xs (i + 1))]) (rest := []) C hP hD hS (Nat.le_of_ble_eq_true rfl) (eM_Md _ _) rfl (fun hΘ => c_Md_release l D κ hΘ H.size (xs (i + 1)) A B (fun A1 B1 => A1 = A' ∧ B1 = B') (g2 _ ⟨rfl, rfl⟩)) q_Md_release k_922 k_923 k_921 rfl rfl ⟨(Nat.le_of_ble_eq_true rfl), (Nat.le_of_ble_eq_true rfl)⟩ rfl hl.1 rfl (Nat.le_of_ble_eq_true rfl) d_law_447 hc2 (fun A1 B1 H locs hp hP hD hS => ?_)
  obtain ⟨e1, e2⟩ := hp
  rw [e1, e2] at hP hD
  refine lv_aload_n hx hb d_law_450 rfl (lv_at hl 3 rfl) ?_
  refine y_Vi (n := 34) (Θ := Φ) (X := eM Φ κ) (Xs := []) (Zs := xw 52 Θ (eC Θ κ) I' J' ++ wO κ ao f) (As := []) (rest := []) C hP hD hS (Nat.le_of_ble_eq_true rfl) (eM_Md _ _) rfl (fun hΘ => c_Md_thrown l D κ hΘ H.size  A' B' (fun r2 A2 B2 => r2 = A' 0 0 ∧ A2 = A' ∧ B2 = B') ⟨rfl, rfl, rfl⟩) q_Md_thrown k_879 k_880 k_878 rfl rfl ⟨(Nat.le_of_ble_eq_true rfl), (Nat.le_of_ble_eq_true rfl)⟩ rfl hl.1 rfl (Nat.le_of_ble_eq_true rfl) d_law_451 hc2 (fun r2 A2 B2 H locs hp hP hD hS => ?_)
  obtain ⟨e1, e2, e3⟩ := hp
  rw [e2, e3] at hP hD
  rw [e1]
  refine lv_iload hx hb d_law_454 (lv_at hl 0 rfl) ?_
  refine lv_icmp_eq hx hb d_law_456 (tgt := 461) rfl (fun _ => ?_) (fun hn => absurd z hn)
  refine lv_goto hx hb d_law_461 (tgt := 1080) rfl ?_
  exact nx f I' J' A' B' _ _ ls i' hP hD hS (lv_sub hl [1, 2, 3, 4, 5] rfl)
set_option maxHeartbeats 4000000 in
set_option maxRecDepth 100000 in
theorem lw_send (C0 : lwC p l s m c b L xs D κ) {ao i cells slots : Nat} {Θ Φ : Nat → Nat} {Q : State → Prop} (hi : i + 4 ≤ L) (hc : cells + 1 ≤ room_1.cells ∧ slots + 6 ≤ room_1.slots) (nx : lwN p l e s m below meth c b D κ Θ Φ ao i (cells + 1) (slots + 6) Q 1080) : lwN p l e s m below meth c b D κ Θ Φ ao i cells slots Q 464 := by
  intro f I J A B H locs ls hI hP hD hS hl
  obtain ⟨C, hT, hfl, hX, hbl, hL⟩ := C0
  have hx := C.1.1
  have hb := C.1.2.1
  have hown := C.1.2.2.2.1
  have hts := C.1.2.2.2.2
  have hc1 : cells + 0 ≤ room_1.cells ∧ slots + 0 ≤ room_1.slots := ⟨by omega, by omega⟩
  have hc2 : (cells + 1) + 0 ≤ room_1.cells ∧ (slots + 6) + 0 ≤ room_1.slots := hc
  obtain ⟨v, I', J', A', B', g1, g2, i', z⟩ := e_send hI (xs (i + 1)) (xs (i + 2)) (xs (i + 3))
  refine lv_aload_n hx hb d_law_464 rfl (lv_at hl 3 rfl) ?_
  refine lv_aload_n hx hb d_law_465 rfl (lv_at hl 4 rfl) ?_
  refine lv_iload hx hb d_law_466 (lv_at hl 0 rfl) ?_
  refine lv_iconst (v := (1 : Int32)) hx hb d_law_468 (by decide) ?_
  refine lv_iadd hx hb d_law_469 ?_
  refine y_sld (k := 1) hx hb hX hbl hS (by omega) hL (nI_add i 1) d_law_470 ?_
  refine lv_aload_n hx hb d_law_471 rfl (lv_at hl 4 rfl) ?_
  refine lv_iload hx hb d_law_472 (lv_at hl 0 rfl) ?_
  refine lv_iconst (v := (2 : Int32)) hx hb d_law_474 (by decide) ?_
  refine lv_iadd hx hb d_law_475 ?_
  refine y_sld (k := 2) hx hb hX hbl hS (by omega) hL (nI_add i 2) d_law_476 ?_
  refine lv_aload_n hx hb d_law_477 rfl (lv_at hl 4 rfl) ?_
  refine lv_iload hx hb d_law_478 (lv_at hl 0 rfl) ?_
  refine lv_iconst (v := (3 : Int32)) hx hb d_law_480 (by decide) ?_
  refine lv_iadd hx hb d_law_481 ?_
  refine y_sld (k := 3) hx hb hX hbl hS (by omega) hL (nI_add i 3) d_law_482 ?_
  refine y_Hi (k := 4) (n := 52) (Θ := Θ) (X := eC Θ κ) (Xs := xw 34 Φ (eM Φ κ) A B) (Zs := wO κ ao f) (As := [.ref (Θ 0), .int (xs (i + 1)), .int (xs (i + 2)), .int (xs (i + 3))]) (rest := []) C hT hP hD hS (fun hΘ => c_Lw_send l hfl D κ hΘ H.size (xs (i + 1)) (xs (i + 2)) (xs (i + 3)) I J (fun r I1 J1 => r = v ∧ I1 = I' ∧ J1 = J') (g1 _ ⟨rfl, rfl, rfl⟩)) k_499 k_0 ⟨⟨by decide +kernel, by decide +kernel⟩, by decide +kernel⟩ k_498 k_497 rfl rfl ⟨(Nat.le_of_ble_eq_true rfl), (Nat.le_of_ble_eq_true rfl)⟩ rfl hl.1 rfl (Nat.le_of_ble_eq_true rfl) d_law_483 hc (fun r I1 J1 H locs hp hP hD hS => ?_)
  obtain ⟨er, eI, eJ⟩ := hp
  rw [eI, eJ] at hP hD
  rw [er]
  refine lv_istore hx hb d_law_486 hl (Nat.le_of_ble_eq_true rfl) (lv' := [(5, .int v), (4, .int (nI i)), (3, .ref ao), (2, .ref (Φ 0)), (1, .ref (Θ 0)), (0, .ref b)]) rfl (fun ls hl => ?_)
  refine lv_aload_n hx hb d_law_488 rfl (lv_at hl 3 rfl) ?_
  refine lv_aload_n hx hb d_law_489 rfl (lv_at hl 5 rfl) ?_
  refine lv_iload hx hb d_law_490 (lv_at hl 1 rfl) ?_
  refine lv_iconst (v := (1 : Int32)) hx hb d_law_492 (by decide) ?_
  refine lv_iadd hx hb d_law_493 ?_
  refine y_sld (k := 1) hx hb hX hbl hS (by omega) hL (nI_add i 1) d_law_494 ?_
  refine lv_aload_n hx hb d_law_495 rfl (lv_at hl 5 rfl) ?_
  refine lv_iload hx hb d_law_496 (lv_at hl 1 rfl) ?_
  refine lv_iconst (v := (2 : Int32)) hx hb d_law_498 (by decide) ?_
  refine lv_iadd hx hb d_law_499 ?_
  refine y_sld (k := 2) hx hb hX hbl hS (by omega) hL (nI_add i 2) d_law_500 ?_
  refine lv_aload_n hx hb d_law_501 rfl (lv_at hl 5 rfl) ?_
  refine lv_iload hx hb d_law_502 (lv_at hl 1 rfl) ?_
  refine lv_iconst (v := (3 : Int32)) hx hb d_law_504 (by decide) ?_
  refine lv_iadd hx hb d_law_505 ?_
  refine y_sld (k := 3) hx hb hX hbl hS (by omega) hL (nI_add i 3) d_law_506 ?_
  refine y_Vv (n := 34) (Θ := Φ) (X := eM Φ κ) (Xs := []) (Zs := xw 52 Θ (eC Θ κ) I' J' ++ wO κ ao f) (As := [.int (xs (i + 1)), .int (xs (i + 2)), .int (xs (i + 3))]) (rest := []) C hP hD hS (Nat.le_of_ble_eq_true rfl) (eM_Md _ _) rfl (fun hΘ => c_Md_send l D κ hΘ H.size (xs (i + 1)) (xs (i + 2)) (xs (i + 3)) A B (fun A1 B1 => A1 = A' ∧ B1 = B') (g2 _ ⟨rfl, rfl⟩)) q_Md_send k_926 k_927 k_925 rfl rfl ⟨(Nat.le_of_ble_eq_true rfl), (Nat.le_of_ble_eq_true rfl)⟩ rfl hl.1 rfl (Nat.le_of_ble_eq_true rfl) d_law_507 hc2 (fun A1 B1 H locs hp hP hD hS => ?_)
  obtain ⟨e1, e2⟩ := hp
  rw [e1, e2] at hP hD
  refine lv_aload_n hx hb d_law_510 rfl (lv_at hl 3 rfl) ?_
  refine y_Vi (n := 34) (Θ := Φ) (X := eM Φ κ) (Xs := []) (Zs := xw 52 Θ (eC Θ κ) I' J' ++ wO κ ao f) (As := []) (rest := []) C hP hD hS (Nat.le_of_ble_eq_true rfl) (eM_Md _ _) rfl (fun hΘ => c_Md_thrown l D κ hΘ H.size  A' B' (fun r2 A2 B2 => r2 = A' 0 0 ∧ A2 = A' ∧ B2 = B') ⟨rfl, rfl, rfl⟩) q_Md_thrown k_879 k_880 k_878 rfl rfl ⟨(Nat.le_of_ble_eq_true rfl), (Nat.le_of_ble_eq_true rfl)⟩ rfl hl.1 rfl (Nat.le_of_ble_eq_true rfl) d_law_511 hc2 (fun r2 A2 B2 H locs hp hP hD hS => ?_)
  obtain ⟨e1, e2, e3⟩ := hp
  rw [e2, e3] at hP hD
  rw [e1]
  refine lv_iload hx hb d_law_514 (lv_at hl 0 rfl) ?_
  refine lv_icmp_eq hx hb d_law_516 (tgt := 521) rfl (fun _ => ?_) (fun hn => absurd z hn)
  refine lv_goto hx hb d_law_521 (tgt := 1080) rfl ?_
  exact nx f I' J' A' B' _ _ ls i' hP hD hS (lv_sub hl [1, 2, 3, 4, 5] rfl)
set_option maxHeartbeats 4000000 in
set_option maxRecDepth 100000 in
theorem lw_speak (C0 : lwC p l s m c b L xs D κ) {ao i cells slots : Nat} {Θ Φ : Nat → Nat} {Q : State → Prop} (hi : i + 4 ≤ L) (hc : cells + 1 ≤ room_1.cells ∧ slots + 6 ≤ room_1.slots) (nx : lwN p l e s m below meth c b D κ Θ Φ ao i (cells + 1) (slots + 6) Q 1080) : lwN p l e s m below meth c b D κ Θ Φ ao i cells slots Q 524 := by
  intro f I J A B H locs ls hI hP hD hS hl
  obtain ⟨C, hT, hfl, hX, hbl, hL⟩ := C0
  have hx := C.1.1
  have hb := C.1.2.1
  have hown := C.1.2.2.2.1
  have hts := C.1.2.2.2.2
  have hc1 : cells + 0 ≤ room_1.cells ∧ slots + 0 ≤ room_1.slots := ⟨by omega, by omega⟩
  have hc2 : (cells + 1) + 0 ≤ room_1.cells ∧ (slots + 6) + 0 ≤ room_1.slots := hc
  obtain ⟨v, I', J', A', B', g1, g2, i', z⟩ := e_speak hI (xs (i + 1)) (xs (i + 2))
  refine lv_aload_n hx hb d_law_524 rfl (lv_at hl 3 rfl) ?_
  refine lv_aload_n hx hb d_law_525 rfl (lv_at hl 4 rfl) ?_
  refine lv_iload hx hb d_law_526 (lv_at hl 0 rfl) ?_
  refine lv_iconst (v := (1 : Int32)) hx hb d_law_528 (by decide) ?_
  refine lv_iadd hx hb d_law_529 ?_
  refine y_sld (k := 1) hx hb hX hbl hS (by omega) hL (nI_add i 1) d_law_530 ?_
  refine lv_aload_n hx hb d_law_531 rfl (lv_at hl 4 rfl) ?_
  refine lv_iload hx hb d_law_532 (lv_at hl 0 rfl) ?_
  refine lv_iconst (v := (2 : Int32)) hx hb d_law_534 (by decide) ?_
  refine lv_iadd hx hb d_law_535 ?_
  refine y_sld (k := 2) hx hb hX hbl hS (by omega) hL (nI_add i 2) d_law_536 ?_
  refine y_Hi (k := 3) (n := 52) (Θ := Θ) (X := eC Θ κ) (Xs := xw 34 Φ (eM Φ κ) A B) (Zs := wO κ ao f) (As := [.ref (Θ 0), .int (xs (i + 1)), .int (xs (i + 2))]) (rest := []) C hT hP hD hS (fun hΘ => c_Lw_speak l hfl D κ hΘ H.size (xs (i + 1)) (xs (i + 2)) I J (fun r I1 J1 => r = v ∧ I1 = I' ∧ J1 = J') (g1 _ ⟨rfl, rfl, rfl⟩)) k_510 k_0 ⟨⟨by decide +kernel, by decide +kernel⟩, by decide +kernel⟩ k_509 k_508 rfl rfl ⟨(Nat.le_of_ble_eq_true rfl), (Nat.le_of_ble_eq_true rfl)⟩ rfl hl.1 rfl (Nat.le_of_ble_eq_true rfl) d_law_537 hc (fun r I1 J1 H locs hp hP hD hS => ?_)
  obtain ⟨er, eI, eJ⟩ := hp
  rw [eI, eJ] at hP hD
  rw [er]
  refine lv_istore hx hb d_law_540 hl (Nat.le_of_ble_eq_true rfl) (lv' := [(5, .int v), (4, .int (nI i)), (3, .ref ao), (2, .ref (Φ 0)), (1, .ref (Θ 0)), (0, .ref b)]) rfl (fun ls hl => ?_)
  refine lv_aload_n hx hb d_law_542 rfl (lv_at hl 3 rfl) ?_
  refine lv_aload_n hx hb d_law_543 rfl (lv_at hl 5 rfl) ?_
  refine lv_iload hx hb d_law_544 (lv_at hl 1 rfl) ?_
  refine lv_iconst (v := (1 : Int32)) hx hb d_law_546 (by decide) ?_
  refine lv_iadd hx hb d_law_547 ?_
  refine y_sld (k := 1) hx hb hX hbl hS (by omega) hL (nI_add i 1) d_law_548 ?_
  refine lv_aload_n hx hb d_law_549 rfl (lv_at hl 5 rfl) ?_
  refine lv_iload hx hb d_law_550 (lv_at hl 1 rfl) ?_
  refine lv_iconst (v := (2 : Int32)) hx hb d_law_552 (by decide) ?_
  refine lv_iadd hx hb d_law_553 ?_
  refine y_sld (k := 2) hx hb hX hbl hS (by omega) hL (nI_add i 2) d_law_554 ?_
  refine y_Vv (n := 34) (Θ := Φ) (X := eM Φ κ) (Xs := []) (Zs := xw 52 Θ (eC Θ κ) I' J' ++ wO κ ao f) (As := [.int (xs (i + 1)), .int (xs (i + 2))]) (rest := []) C hP hD hS (Nat.le_of_ble_eq_true rfl) (eM_Md _ _) rfl (fun hΘ => c_Md_speak l D κ hΘ H.size (xs (i + 1)) (xs (i + 2)) A B (fun A1 B1 => A1 = A' ∧ B1 = B') (g2 _ ⟨rfl, rfl⟩)) q_Md_speak k_930 k_931 k_929 rfl rfl ⟨(Nat.le_of_ble_eq_true rfl), (Nat.le_of_ble_eq_true rfl)⟩ rfl hl.1 rfl (Nat.le_of_ble_eq_true rfl) d_law_555 hc2 (fun A1 B1 H locs hp hP hD hS => ?_)
  obtain ⟨e1, e2⟩ := hp
  rw [e1, e2] at hP hD
  refine lv_aload_n hx hb d_law_558 rfl (lv_at hl 3 rfl) ?_
  refine y_Vi (n := 34) (Θ := Φ) (X := eM Φ κ) (Xs := []) (Zs := xw 52 Θ (eC Θ κ) I' J' ++ wO κ ao f) (As := []) (rest := []) C hP hD hS (Nat.le_of_ble_eq_true rfl) (eM_Md _ _) rfl (fun hΘ => c_Md_thrown l D κ hΘ H.size  A' B' (fun r2 A2 B2 => r2 = A' 0 0 ∧ A2 = A' ∧ B2 = B') ⟨rfl, rfl, rfl⟩) q_Md_thrown k_879 k_880 k_878 rfl rfl ⟨(Nat.le_of_ble_eq_true rfl), (Nat.le_of_ble_eq_true rfl)⟩ rfl hl.1 rfl (Nat.le_of_ble_eq_true rfl) d_law_559 hc2 (fun r2 A2 B2 H locs hp hP hD hS => ?_)
  obtain ⟨e1, e2, e3⟩ := hp
  rw [e2, e3] at hP hD
  rw [e1]
  refine lv_iload hx hb d_law_562 (lv_at hl 0 rfl) ?_
  refine lv_icmp_eq hx hb d_law_564 (tgt := 569) rfl (fun _ => ?_) (fun hn => absurd z hn)
  refine lv_goto hx hb d_law_569 (tgt := 1080) rfl ?_
  exact nx f I' J' A' B' _ _ ls i' hP hD hS (lv_sub hl [1, 2, 3, 4, 5] rfl)
set_option maxHeartbeats 4000000 in
set_option maxRecDepth 100000 in
theorem lw_draw (C0 : lwC p l s m c b L xs D κ) {ao i cells slots : Nat} {Θ Φ : Nat → Nat} {Q : State → Prop} (hi : i + 4 ≤ L) (hc : cells + 1 ≤ room_1.cells ∧ slots + 6 ≤ room_1.slots) (nx : lwN p l e s m below meth c b D κ Θ Φ ao i (cells + 1) (slots + 6) Q 1080) : lwN p l e s m below meth c b D κ Θ Φ ao i cells slots Q 572 := by
  intro f I J A B H locs ls hI hP hD hS hl
  obtain ⟨C, hT, hfl, hX, hbl, hL⟩ := C0
  have hx := C.1.1
  have hb := C.1.2.1
  have hown := C.1.2.2.2.1
  have hts := C.1.2.2.2.2
  have hc1 : cells + 0 ≤ room_1.cells ∧ slots + 0 ≤ room_1.slots := ⟨by omega, by omega⟩
  have hc2 : (cells + 1) + 0 ≤ room_1.cells ∧ (slots + 6) + 0 ≤ room_1.slots := hc
  obtain ⟨v, I', J', A', B', g1, g2, i', z⟩ := e_draw hI (xs (i + 1)) (xs (i + 2))
  refine lv_aload_n hx hb d_law_572 rfl (lv_at hl 3 rfl) ?_
  refine lv_aload_n hx hb d_law_573 rfl (lv_at hl 4 rfl) ?_
  refine lv_iload hx hb d_law_574 (lv_at hl 0 rfl) ?_
  refine lv_iconst (v := (1 : Int32)) hx hb d_law_576 (by decide) ?_
  refine lv_iadd hx hb d_law_577 ?_
  refine y_sld (k := 1) hx hb hX hbl hS (by omega) hL (nI_add i 1) d_law_578 ?_
  refine lv_aload_n hx hb d_law_579 rfl (lv_at hl 4 rfl) ?_
  refine lv_iload hx hb d_law_580 (lv_at hl 0 rfl) ?_
  refine lv_iconst (v := (2 : Int32)) hx hb d_law_582 (by decide) ?_
  refine lv_iadd hx hb d_law_583 ?_
  refine y_sld (k := 2) hx hb hX hbl hS (by omega) hL (nI_add i 2) d_law_584 ?_
  refine y_Hi (k := 3) (n := 52) (Θ := Θ) (X := eC Θ κ) (Xs := xw 34 Φ (eM Φ κ) A B) (Zs := wO κ ao f) (As := [.ref (Θ 0), .int (xs (i + 1)), .int (xs (i + 2))]) (rest := []) C hT hP hD hS (fun hΘ => c_Lw_draw l hfl D κ hΘ H.size (xs (i + 1)) (xs (i + 2)) I J (fun r I1 J1 => r = v ∧ I1 = I' ∧ J1 = J') (g1 _ ⟨rfl, rfl, rfl⟩)) k_518 k_0 ⟨⟨by decide +kernel, by decide +kernel⟩, by decide +kernel⟩ k_517 k_516 rfl rfl ⟨(Nat.le_of_ble_eq_true rfl), (Nat.le_of_ble_eq_true rfl)⟩ rfl hl.1 rfl (Nat.le_of_ble_eq_true rfl) d_law_585 hc (fun r I1 J1 H locs hp hP hD hS => ?_)
  obtain ⟨er, eI, eJ⟩ := hp
  rw [eI, eJ] at hP hD
  rw [er]
  refine lv_istore hx hb d_law_588 hl (Nat.le_of_ble_eq_true rfl) (lv' := [(5, .int v), (4, .int (nI i)), (3, .ref ao), (2, .ref (Φ 0)), (1, .ref (Θ 0)), (0, .ref b)]) rfl (fun ls hl => ?_)
  refine lv_aload_n hx hb d_law_590 rfl (lv_at hl 3 rfl) ?_
  refine lv_aload_n hx hb d_law_591 rfl (lv_at hl 5 rfl) ?_
  refine lv_iload hx hb d_law_592 (lv_at hl 1 rfl) ?_
  refine lv_iconst (v := (1 : Int32)) hx hb d_law_594 (by decide) ?_
  refine lv_iadd hx hb d_law_595 ?_
  refine y_sld (k := 1) hx hb hX hbl hS (by omega) hL (nI_add i 1) d_law_596 ?_
  refine lv_aload_n hx hb d_law_597 rfl (lv_at hl 5 rfl) ?_
  refine lv_iload hx hb d_law_598 (lv_at hl 1 rfl) ?_
  refine lv_iconst (v := (2 : Int32)) hx hb d_law_600 (by decide) ?_
  refine lv_iadd hx hb d_law_601 ?_
  refine y_sld (k := 2) hx hb hX hbl hS (by omega) hL (nI_add i 2) d_law_602 ?_
  refine y_Vv (n := 34) (Θ := Φ) (X := eM Φ κ) (Xs := []) (Zs := xw 52 Θ (eC Θ κ) I' J' ++ wO κ ao f) (As := [.int (xs (i + 1)), .int (xs (i + 2))]) (rest := []) C hP hD hS (Nat.le_of_ble_eq_true rfl) (eM_Md _ _) rfl (fun hΘ => c_Md_draw l D κ hΘ H.size (xs (i + 1)) (xs (i + 2)) A B (fun A1 B1 => A1 = A' ∧ B1 = B') (g2 _ ⟨rfl, rfl⟩)) q_Md_draw k_935 k_936 k_934 rfl rfl ⟨(Nat.le_of_ble_eq_true rfl), (Nat.le_of_ble_eq_true rfl)⟩ rfl hl.1 rfl (Nat.le_of_ble_eq_true rfl) d_law_603 hc2 (fun A1 B1 H locs hp hP hD hS => ?_)
  obtain ⟨e1, e2⟩ := hp
  rw [e1, e2] at hP hD
  refine lv_aload_n hx hb d_law_606 rfl (lv_at hl 3 rfl) ?_
  refine y_Vi (n := 34) (Θ := Φ) (X := eM Φ κ) (Xs := []) (Zs := xw 52 Θ (eC Θ κ) I' J' ++ wO κ ao f) (As := []) (rest := []) C hP hD hS (Nat.le_of_ble_eq_true rfl) (eM_Md _ _) rfl (fun hΘ => c_Md_thrown l D κ hΘ H.size  A' B' (fun r2 A2 B2 => r2 = A' 0 0 ∧ A2 = A' ∧ B2 = B') ⟨rfl, rfl, rfl⟩) q_Md_thrown k_879 k_880 k_878 rfl rfl ⟨(Nat.le_of_ble_eq_true rfl), (Nat.le_of_ble_eq_true rfl)⟩ rfl hl.1 rfl (Nat.le_of_ble_eq_true rfl) d_law_607 hc2 (fun r2 A2 B2 H locs hp hP hD hS => ?_)
  obtain ⟨e1, e2, e3⟩ := hp
  rw [e2, e3] at hP hD
  rw [e1]
  refine lv_iload hx hb d_law_610 (lv_at hl 0 rfl) ?_
  refine lv_icmp_eq hx hb d_law_612 (tgt := 617) rfl (fun _ => ?_) (fun hn => absurd z hn)
  refine lv_goto hx hb d_law_617 (tgt := 1080) rfl ?_
  exact nx f I' J' A' B' _ _ ls i' hP hD hS (lv_sub hl [1, 2, 3, 4, 5] rfl)
set_option maxHeartbeats 4000000 in
set_option maxRecDepth 100000 in
theorem lw_fault (C0 : lwC p l s m c b L xs D κ) {ao i cells slots : Nat} {Θ Φ : Nat → Nat} {Q : State → Prop} (hi : i + 4 ≤ L) (hc : cells + 1 ≤ room_1.cells ∧ slots + 6 ≤ room_1.slots) (nx : lwN p l e s m below meth c b D κ Θ Φ ao i (cells + 1) (slots + 6) Q 1080) : lwN p l e s m below meth c b D κ Θ Φ ao i cells slots Q 620 := by
  intro f I J A B H locs ls hI hP hD hS hl
  obtain ⟨C, hT, hfl, hX, hbl, hL⟩ := C0
  have hx := C.1.1
  have hb := C.1.2.1
  have hown := C.1.2.2.2.1
  have hts := C.1.2.2.2.2
  have hc1 : cells + 0 ≤ room_1.cells ∧ slots + 0 ≤ room_1.slots := ⟨by omega, by omega⟩
  have hc2 : (cells + 1) + 0 ≤ room_1.cells ∧ (slots + 6) + 0 ≤ room_1.slots := hc
  obtain ⟨v, I', J', A', B', g1, g2, i', z⟩ := e_fault hI (xs (i + 1)) ((xll (((xs (i + 2))).toInt64) (32 : Int32)) ||| ((((xs (i + 3))).toInt64) &&& (4294967295 : Int64)))
  refine lv_aload_n hx hb d_law_620 rfl (lv_at hl 3 rfl) ?_
  refine lv_aload_n hx hb d_law_621 rfl (lv_at hl 4 rfl) ?_
  refine lv_iload hx hb d_law_622 (lv_at hl 0 rfl) ?_
  refine lv_iconst (v := (1 : Int32)) hx hb d_law_624 (by decide) ?_
  refine lv_iadd hx hb d_law_625 ?_
  refine y_sld (k := 1) hx hb hX hbl hS (by omega) hL (nI_add i 1) d_law_626 ?_
  refine lv_aload_n hx hb d_law_627 rfl (lv_at hl 4 rfl) ?_
  refine lv_iload hx hb d_law_628 (lv_at hl 0 rfl) ?_
  refine lv_iconst (v := (2 : Int32)) hx hb d_law_630 (by decide) ?_
  refine lv_iadd hx hb d_law_631 ?_
  refine y_sld (k := 2) hx hb hX hbl hS (by omega) hL (nI_add i 2) d_law_632 ?_
  refine lv_i2l (v := ((xs (i + 2))).toInt64) hx hb d_law_633 rfl ?_
  refine lv_bipush (v := (32 : Int32)) hx hb d_law_634 (by decide) ?_
  refine lv_lshl (v := (xll (((xs (i + 2))).toInt64) (32 : Int32))) hx hb d_law_636 rfl ?_
  refine lv_aload_n hx hb d_law_637 rfl (lv_at hl 4 rfl) ?_
  refine lv_iload hx hb d_law_638 (lv_at hl 0 rfl) ?_
  refine lv_iconst (v := (3 : Int32)) hx hb d_law_640 (by decide) ?_
  refine lv_iadd hx hb d_law_641 ?_
  refine y_sld (k := 3) hx hb hX hbl hS (by omega) hL (nI_add i 3) d_law_642 ?_
  refine lv_i2l (v := ((xs (i + 3))).toInt64) hx hb d_law_643 rfl ?_
  refine lv_ldc2 (v := (4294967295 : Int64)) hx hb hown (hts _ k_1070) d_law_644 ?_
  refine lv_land hx hb d_law_647 ?_
  refine lv_lor hx hb d_law_648 ?_
  refine y_Hi (k := 3) (n := 52) (Θ := Θ) (X := eC Θ κ) (Xs := xw 34 Φ (eM Φ κ) A B) (Zs := wO κ ao f) (As := [.ref (Θ 0), .int (xs (i + 1)), .long ((xll (((xs (i + 2))).toInt64) (32 : Int32)) ||| ((((xs (i + 3))).toInt64) &&& (4294967295 : Int64)))]) (rest := []) C hT hP hD hS (fun hΘ => c_Lw_fault l hfl D κ hΘ H.size (xs (i + 1)) ((xll (((xs (i + 2))).toInt64) (32 : Int32)) ||| ((((xs (i + 3))).toInt64) &&& (4294967295 : Int64))) I J (fun r I1 J1 => r = v ∧ I1 = I' ∧ J1 = J') (g1 _ ⟨rfl, rfl, rfl⟩)) k_547 k_0 ⟨⟨by decide +kernel, by decide +kernel⟩, by decide +kernel⟩ k_546 k_545 rfl rfl ⟨(Nat.le_of_ble_eq_true rfl), (Nat.le_of_ble_eq_true rfl)⟩ rfl hl.1 rfl (Nat.le_of_ble_eq_true rfl) d_law_649 hc (fun r I1 J1 H locs hp hP hD hS => ?_)
  obtain ⟨er, eI, eJ⟩ := hp
  rw [eI, eJ] at hP hD
  rw [er]
  refine lv_istore hx hb d_law_652 hl (Nat.le_of_ble_eq_true rfl) (lv' := [(5, .int v), (4, .int (nI i)), (3, .ref ao), (2, .ref (Φ 0)), (1, .ref (Θ 0)), (0, .ref b)]) rfl (fun ls hl => ?_)
  refine lv_aload_n hx hb d_law_654 rfl (lv_at hl 3 rfl) ?_
  refine lv_aload_n hx hb d_law_655 rfl (lv_at hl 5 rfl) ?_
  refine lv_iload hx hb d_law_656 (lv_at hl 1 rfl) ?_
  refine lv_iconst (v := (1 : Int32)) hx hb d_law_658 (by decide) ?_
  refine lv_iadd hx hb d_law_659 ?_
  refine y_sld (k := 1) hx hb hX hbl hS (by omega) hL (nI_add i 1) d_law_660 ?_
  refine lv_aload_n hx hb d_law_661 rfl (lv_at hl 5 rfl) ?_
  refine lv_iload hx hb d_law_662 (lv_at hl 1 rfl) ?_
  refine lv_iconst (v := (2 : Int32)) hx hb d_law_664 (by decide) ?_
  refine lv_iadd hx hb d_law_665 ?_
  refine y_sld (k := 2) hx hb hX hbl hS (by omega) hL (nI_add i 2) d_law_666 ?_
  refine lv_i2l (v := ((xs (i + 2))).toInt64) hx hb d_law_667 rfl ?_
  refine lv_bipush (v := (32 : Int32)) hx hb d_law_668 (by decide) ?_
  refine lv_lshl (v := (xll (((xs (i + 2))).toInt64) (32 : Int32))) hx hb d_law_670 rfl ?_
  refine lv_aload_n hx hb d_law_671 rfl (lv_at hl 5 rfl) ?_
  refine lv_iload hx hb d_law_672 (lv_at hl 1 rfl) ?_
  refine lv_iconst (v := (3 : Int32)) hx hb d_law_674 (by decide) ?_
  refine lv_iadd hx hb d_law_675 ?_
  refine y_sld (k := 3) hx hb hX hbl hS (by omega) hL (nI_add i 3) d_law_676 ?_
  refine lv_i2l (v := ((xs (i + 3))).toInt64) hx hb d_law_677 rfl ?_
  refine lv_ldc2 (v := (4294967295 : Int64)) hx hb hown (hts _ k_1070) d_law_678 ?_
  refine lv_land hx hb d_law_681 ?_
  refine lv_lor hx hb d_law_682 ?_
  refine y_Vv (n := 34) (Θ := Φ) (X := eM Φ κ) (Xs := []) (Zs := xw 52 Θ (eC Θ κ) I' J' ++ wO κ ao f) (As := [.int (xs (i + 1)), .long ((xll (((xs (i + 2))).toInt64) (32 : Int32)) ||| ((((xs (i + 3))).toInt64) &&& (4294967295 : Int64)))]) (rest := []) C hP hD hS (Nat.le_of_ble_eq_true rfl) (eM_Md _ _) rfl (fun hΘ => c_Md_fault l D κ hΘ H.size (xs (i + 1)) ((xll (((xs (i + 2))).toInt64) (32 : Int32)) ||| ((((xs (i + 3))).toInt64) &&& (4294967295 : Int64))) A B (fun A1 B1 => A1 = A' ∧ B1 = B') (g2 _ ⟨rfl, rfl⟩)) q_Md_fault k_939 k_940 k_938 rfl rfl ⟨(Nat.le_of_ble_eq_true rfl), (Nat.le_of_ble_eq_true rfl)⟩ rfl hl.1 rfl (Nat.le_of_ble_eq_true rfl) d_law_683 hc2 (fun A1 B1 H locs hp hP hD hS => ?_)
  obtain ⟨e1, e2⟩ := hp
  rw [e1, e2] at hP hD
  refine lv_aload_n hx hb d_law_686 rfl (lv_at hl 3 rfl) ?_
  refine y_Vi (n := 34) (Θ := Φ) (X := eM Φ κ) (Xs := []) (Zs := xw 52 Θ (eC Θ κ) I' J' ++ wO κ ao f) (As := []) (rest := []) C hP hD hS (Nat.le_of_ble_eq_true rfl) (eM_Md _ _) rfl (fun hΘ => c_Md_thrown l D κ hΘ H.size  A' B' (fun r2 A2 B2 => r2 = A' 0 0 ∧ A2 = A' ∧ B2 = B') ⟨rfl, rfl, rfl⟩) q_Md_thrown k_879 k_880 k_878 rfl rfl ⟨(Nat.le_of_ble_eq_true rfl), (Nat.le_of_ble_eq_true rfl)⟩ rfl hl.1 rfl (Nat.le_of_ble_eq_true rfl) d_law_687 hc2 (fun r2 A2 B2 H locs hp hP hD hS => ?_)
  obtain ⟨e1, e2, e3⟩ := hp
  rw [e2, e3] at hP hD
  rw [e1]
  refine lv_iload hx hb d_law_690 (lv_at hl 0 rfl) ?_
  refine lv_icmp_eq hx hb d_law_692 (tgt := 697) rfl (fun _ => ?_) (fun hn => absurd z hn)
  refine lv_goto hx hb d_law_697 (tgt := 1080) rfl ?_
  exact nx f I' J' A' B' _ _ ls i' hP hD hS (lv_sub hl [1, 2, 3, 4, 5] rfl)
set_option maxHeartbeats 4000000 in
set_option maxRecDepth 100000 in
theorem lw_tick (C0 : lwC p l s m c b L xs D κ) {ao i cells slots : Nat} {Θ Φ : Nat → Nat} {Q : State → Prop} (hi : i + 4 ≤ L) (hc : cells + 1 ≤ room_1.cells ∧ slots + 6 ≤ room_1.slots) (nx : lwN p l e s m below meth c b D κ Θ Φ ao i (cells + 1) (slots + 6) Q 1080) : lwN p l e s m below meth c b D κ Θ Φ ao i cells slots Q 700 := by
  intro f I J A B H locs ls hI hP hD hS hl
  obtain ⟨C, hT, hfl, hX, hbl, hL⟩ := C0
  have hx := C.1.1
  have hb := C.1.2.1
  have hown := C.1.2.2.2.1
  have hts := C.1.2.2.2.2
  have hc1 : cells + 0 ≤ room_1.cells ∧ slots + 0 ≤ room_1.slots := ⟨by omega, by omega⟩
  have hc2 : (cells + 1) + 0 ≤ room_1.cells ∧ (slots + 6) + 0 ≤ room_1.slots := hc
  refine lv_aload_n hx hb d_law_700 rfl (lv_at hl 3 rfl) ?_
  refine lv_aload_n hx hb d_law_701 rfl (lv_at hl 4 rfl) ?_
  refine lv_iload hx hb d_law_702 (lv_at hl 0 rfl) ?_
  refine lv_iconst (v := (1 : Int32)) hx hb d_law_704 (by decide) ?_
  refine lv_iadd hx hb d_law_705 ?_
  refine y_sld (k := 1) hx hb hX hbl hS (by omega) hL (nI_add i 1) d_law_706 ?_
  refine lv_aload_n hx hb d_law_707 rfl (lv_at hl 1 rfl) ?_
  rcases y_tick hI (xs (i + 1)) with ⟨t1, t2⟩ | ⟨v, I', J', A', B', t1, t2, i', z⟩
  · refine y_Tk (Xs := xw 34 Φ (eM Φ κ) A B) (rest := []) (post := (fun r g I1 J1 => r = 1 ∧ g = f ∧ I1 = I ∧ J1 = J)) hfl C hT hP hD hS (t1 _ _ ⟨rfl, rfl, rfl, rfl, rfl⟩) k_553 ⟨(Nat.le_of_ble_eq_true rfl), (Nat.le_of_ble_eq_true rfl)⟩ hl.1 rfl (Nat.le_of_ble_eq_true rfl) d_law_708 hc (fun r g I1 J1 H locs hp hP hD hS => ?_)
    obtain ⟨er, eg, eI, eJ⟩ := hp
    rw [eg, eI, eJ] at hP hD
    rw [er]
    refine lv_istore hx hb d_law_711 hl (Nat.le_of_ble_eq_true rfl) (lv' := [(5, .int (1 : Int32)), (4, .int (nI i)), (3, .ref ao), (2, .ref (Φ 0)), (1, .ref (Θ 0)), (0, .ref b)]) rfl (fun ls hl => ?_)
    refine lv_aload_n hx hb d_law_713 rfl (lv_at hl 3 rfl) ?_
    refine lv_aload_n hx hb d_law_714 rfl (lv_at hl 5 rfl) ?_
    refine lv_iload hx hb d_law_715 (lv_at hl 1 rfl) ?_
    refine lv_iconst (v := (1 : Int32)) hx hb d_law_717 (by decide) ?_
    refine lv_iadd hx hb d_law_718 ?_
    refine y_sld (k := 1) hx hb hX hbl hS (by omega) hL (nI_add i 1) d_law_719 ?_
    refine y_Vi (n := 34) (Θ := Φ) (X := eM Φ κ) (Xs := []) (Zs := xw 52 Θ (eC Θ κ) I J ++ wO κ ao f) (As := [.int (xs (i + 1))]) (rest := []) C hP hD hS (Nat.le_of_ble_eq_true rfl) (eM_Md _ _) rfl (fun hΘ => c_Md_tick l D κ hΘ H.size (xs (i + 1)) A B (fun r2 A1 B1 => r2 = 0 ∧ A1 = xu A 0 0 1 ∧ B1 = B) (t2 _ ⟨rfl, rfl, rfl⟩)) q_Md_tick k_944 k_945 k_943 rfl rfl ⟨(Nat.le_of_ble_eq_true rfl), (Nat.le_of_ble_eq_true rfl)⟩ rfl hl.1 rfl (Nat.le_of_ble_eq_true rfl) d_law_720 hc2 (fun r2 A1 B1 H locs hp hP hD hS => ?_)
    obtain ⟨e0, e1, e2⟩ := hp
    rw [e1, e2] at hP hD
    rw [e0]
    refine lv_istore hx hb d_law_723 hl (Nat.le_of_ble_eq_true rfl) (lv' := [(6, .int (0 : Int32)), (5, .int (1 : Int32)), (4, .int (nI i)), (3, .ref ao), (2, .ref (Φ 0)), (1, .ref (Θ 0)), (0, .ref b)]) rfl (fun ls hl => ?_)
    refine lv_aload_n hx hb d_law_725 rfl (lv_at hl 4 rfl) ?_
    refine y_Vi (n := 34) (Θ := Φ) (X := eM Φ κ) (Xs := []) (Zs := xw 52 Θ (eC Θ κ) I J ++ wO κ ao f) (As := []) (rest := []) C hP hD hS (Nat.le_of_ble_eq_true rfl) (eM_Md _ _) rfl (fun hΘ => c_Md_thrown l D κ hΘ H.size  (xu A 0 0 1) B (fun r2 A2 B2 => r2 = (xu A 0 0 1) 0 0 ∧ A2 = (xu A 0 0 1) ∧ B2 = B) ⟨rfl, rfl, rfl⟩) q_Md_thrown k_879 k_880 k_878 rfl rfl ⟨(Nat.le_of_ble_eq_true rfl), (Nat.le_of_ble_eq_true rfl)⟩ rfl hl.1 rfl (Nat.le_of_ble_eq_true rfl) d_law_726 hc2 (fun r2 A2 B2 H locs hp hP hD hS => ?_)
    obtain ⟨e1, e2, e3⟩ := hp
    rw [e2, e3] at hP hD
    rw [e1]
    refine lv_iload hx hb d_law_729 (lv_at hl 1 rfl) ?_
    refine lv_icmp_eq hx hb d_law_731 (tgt := 736) rfl (fun _ => ?_) (fun hn => absurd (xu_s _ _ _ _) hn)
    refine lv_iload hx hb d_law_736 (lv_at hl 1 rfl) ?_
    refine lv_if_ne hx hb d_law_738 (tgt := 753) rfl (fun _ => ?_) (fun hn => absurd hn (by decide))
    refine lv_goto hx hb d_law_753 (tgt := 1080) rfl ?_
    exact nx f I J (xu A 0 0 1) B _ _ ls (thr_inv hI 1) hP hD hS (lv_sub hl [2, 3, 4, 5, 6] rfl)
  · refine y_Tk (Xs := xw 34 Φ (eM Φ κ) A B) (rest := []) (post := (fun r g I1 J1 => r = 0 ∧ g = vp_updL f 0 v.toInt64 ∧ I1 = I' ∧ J1 = J')) hfl C hT hP hD hS (t1 _ _ ⟨rfl, rfl, rfl, rfl⟩) k_553 ⟨(Nat.le_of_ble_eq_true rfl), (Nat.le_of_ble_eq_true rfl)⟩ hl.1 rfl (Nat.le_of_ble_eq_true rfl) d_law_708 hc (fun r g I1 J1 H locs hp hP hD hS => ?_)
    obtain ⟨er, eg, eI, eJ⟩ := hp
    rw [eg, eI, eJ] at hP hD
    rw [er]
    refine lv_istore hx hb d_law_711 hl (Nat.le_of_ble_eq_true rfl) (lv' := [(5, .int (0 : Int32)), (4, .int (nI i)), (3, .ref ao), (2, .ref (Φ 0)), (1, .ref (Θ 0)), (0, .ref b)]) rfl (fun ls hl => ?_)
    refine lv_aload_n hx hb d_law_713 rfl (lv_at hl 3 rfl) ?_
    refine lv_aload_n hx hb d_law_714 rfl (lv_at hl 5 rfl) ?_
    refine lv_iload hx hb d_law_715 (lv_at hl 1 rfl) ?_
    refine lv_iconst (v := (1 : Int32)) hx hb d_law_717 (by decide) ?_
    refine lv_iadd hx hb d_law_718 ?_
    refine y_sld (k := 1) hx hb hX hbl hS (by omega) hL (nI_add i 1) d_law_719 ?_
    refine y_Vi (n := 34) (Θ := Φ) (X := eM Φ κ) (Xs := []) (Zs := xw 52 Θ (eC Θ κ) I' J' ++ wO κ ao (vp_updL f 0 v.toInt64)) (As := [.int (xs (i + 1))]) (rest := []) C hP hD hS (Nat.le_of_ble_eq_true rfl) (eM_Md _ _) rfl (fun hΘ => c_Md_tick l D κ hΘ H.size (xs (i + 1)) A B (fun r2 A1 B1 => r2 = v ∧ A1 = A' ∧ B1 = B') (t2 _ ⟨rfl, rfl, rfl⟩)) q_Md_tick k_944 k_945 k_943 rfl rfl ⟨(Nat.le_of_ble_eq_true rfl), (Nat.le_of_ble_eq_true rfl)⟩ rfl hl.1 rfl (Nat.le_of_ble_eq_true rfl) d_law_720 hc2 (fun r2 A1 B1 H locs hp hP hD hS => ?_)
    obtain ⟨e0, e1, e2⟩ := hp
    rw [e1, e2] at hP hD
    rw [e0]
    refine lv_istore hx hb d_law_723 hl (Nat.le_of_ble_eq_true rfl) (lv' := [(6, .int v), (5, .int (0 : Int32)), (4, .int (nI i)), (3, .ref ao), (2, .ref (Φ 0)), (1, .ref (Θ 0)), (0, .ref b)]) rfl (fun ls hl => ?_)
    refine lv_aload_n hx hb d_law_725 rfl (lv_at hl 4 rfl) ?_
    refine y_Vi (n := 34) (Θ := Φ) (X := eM Φ κ) (Xs := []) (Zs := xw 52 Θ (eC Θ κ) I' J' ++ wO κ ao (vp_updL f 0 v.toInt64)) (As := []) (rest := []) C hP hD hS (Nat.le_of_ble_eq_true rfl) (eM_Md _ _) rfl (fun hΘ => c_Md_thrown l D κ hΘ H.size  A' B' (fun r2 A2 B2 => r2 = A' 0 0 ∧ A2 = A' ∧ B2 = B') ⟨rfl, rfl, rfl⟩) q_Md_thrown k_879 k_880 k_878 rfl rfl ⟨(Nat.le_of_ble_eq_true rfl), (Nat.le_of_ble_eq_true rfl)⟩ rfl hl.1 rfl (Nat.le_of_ble_eq_true rfl) d_law_726 hc2 (fun r2 A2 B2 H locs hp hP hD hS => ?_)
    obtain ⟨e1, e2, e3⟩ := hp
    rw [e2, e3] at hP hD
    rw [e1]
    refine lv_iload hx hb d_law_729 (lv_at hl 1 rfl) ?_
    refine lv_icmp_eq hx hb d_law_731 (tgt := 736) rfl (fun _ => ?_) (fun hn => absurd z hn)
    refine lv_iload hx hb d_law_736 (lv_at hl 1 rfl) ?_
    refine lv_if_ne hx hb d_law_738 (tgt := 753) rfl (fun hn => absurd rfl hn) (fun _ => ?_)
    refine lv_aload_n hx hb d_law_741 rfl (lv_at hl 3 rfl) ?_
    refine lv_iconst (v := (0 : Int32)) hx hb d_law_742 (by decide) ?_
    have h86 : (LWs κ Θ Φ ao (vp_updL f 0 v.toInt64) I' J' A' B')[86]? = some (ao, .inl (κ 1, 1, .inr (.inl (vp_updL f 0 v.toInt64)))) := by
      rw [List.getElem?_append_right (by rw [xw_len]; decide), xw_len, List.getElem?_append_right (by rw [xw_len]; decide), xw_len]
      rfl
    refine va_lald hx hb C.2.1 hP 86 1 h86 rfl (i := (0 : Int32)) (by unfold vp_in; decide) d_law_743 ?_
    refine lv_iload hx hb d_law_744 (lv_at hl 0 rfl) ?_
    refine lv_i2l (v := (v).toInt64) hx hb d_law_746 rfl ?_
    refine W.lcmp hx hb d_law_747 ?_
    refine lv_if_eq hx hb d_law_748 (tgt := 753) rfl (fun _ => ?_) (fun hn => absurd ((lg_cmp_eq _ _).mpr rfl) hn)
    refine lv_goto hx hb d_law_753 (tgt := 1080) rfl ?_
    exact nx (vp_updL f 0 v.toInt64) I' J' A' B' _ _ ls i' hP hD hS (lv_sub hl [2, 3, 4, 5, 6] rfl)
end LB
