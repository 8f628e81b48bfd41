/-! what holds at the law's entry -/
theorem k_11 : (Jvm.Cond.initialized "java/lang/Throwable") ∈ WS := WS_of 11 (by decide +kernel) (by decide +kernel)
theorem k_21 : (Jvm.Cond.instantiable "TrunkCells" (5 : Nat)) ∈ WS := WS_of 21 (by decide +kernel) (by decide +kernel)
theorem k_760 : (Jvm.Cond.instantiable "TrunkCellsModel" (37 : Nat)) ∈ WS := WS_of 760 (by decide +kernel) (by decide +kernel)
theorem tb_of {w : Cond} (i : Nat) (h : tables_1[i]? = some w) : w ∈ lw_tbl := List.mem_append_right _ (List.mem_of_getElem? h)
theorem st_arr {s : State} {args : Array Value} {ty : FieldType} (h : (Cond.arrayClass ty).before args s = true) : ∃ cA, ArrOfT s cA ty ∧ s.vm.findClass ("[" ++ ty.toString) = some cA := by
  obtain ⟨c, k, comp, h1, h2, h3⟩ := Cond.arrayClass_spec h
  exact ⟨c, fun N z => ⟨(fun k h => by cases h), k, h2, comp, h3⟩, h1⟩
theorem st_over {s : State} {args : Array Value} {n : String} (h : (Cond.arrayOver (.object n)).before args s = true) : ∃ cA, ArrOfT s cA (.object n) ∧ va_RA s cA (.object n) := by
  obtain ⟨comp, c, k, h1, _, h3, h4, h5⟩ := Cond.arrayOver_spec h
  exact ⟨c, fun N z => ⟨(fun k h => by cases h), k, h3, comp, h4⟩, k, comp, h3, h4, h1, h5⟩
theorem st_no {s : State} {args : Array Value} {a b : String} {n m : Nat} (h : (Cond.not (Cond.castable a b)).before args s = true) (ha : (Cond.instantiable a n).before args s = true) (hb : (Cond.instantiable b m).before args s = true) : ∃ ca cb, s.vm.findClass a = some ca ∧ s.vm.findClass b = some cb ∧ s.vm.assignable ca cb = false := by
  obtain ⟨ca, _, h1, _⟩ := Cond.instantiable_spec ha
  obtain ⟨cb, _, h2, _⟩ := Cond.instantiable_spec hb
  exact ⟨ca, cb, h1, h2, by simpa [Cond.before, Cond.holds, Cond.value, h1, h2] using h⟩
theorem st_str {s : State} {args : Array Value} {own tx : String} {k n : Nat} (ho : (Cond.instantiable own n).before args s = true) (h : (Cond.stringRef own k tx).before args s = true) : ∃ q, vk_R own k tx q s := by
  obtain ⟨cur, _, h1, _⟩ := Cond.instantiable_spec ho
  obtain ⟨_, _, _, a, _, _, _, _, _, h2⟩ := Cond.stringRef_spec h1 h
  exact ⟨a, vk_R.of h h2⟩
set_option maxHeartbeats 4000000 in
set_option maxRecDepth 100000 in
theorem st_all {s : State} {b : Nat} (hts : ∀ w ∈ lw_tbl, w.before #[Value.ref b] s = true) (hg : (Jvm.Cond.and given_1 narrow_1).before #[Value.ref b] s = true) : ∃ (D : va_G) (κ : Nat → ClassId), va_K D clA (tysA κ) s ∧ NG s ∧ SG (Aw s) s ∧ AG s ∧ TG s := by
  have htw : ∀ w ∈ WS, w.before #[Value.ref b] s = true := fun w hw => hts w (List.mem_filter.mp hw).1
  have hs := flat_of_before _ hg
  have hA : ∀ a : Nat, a < s.heap.size → ¬ Aw s a := fun a h1 h2 => by
    have : s.heap.size ≤ a := h2
    omega
  obtain ⟨c0, i0, h0⟩ := u_known (C := R_TC) (T := F_TC) (N := 5) htw in_TC (htw _ k_21)
  obtain ⟨c1, i1, h1⟩ := u_known (C := R_Co) (T := F_Co) (N := 4) htw in_Co (htw _ k_29)
  obtain ⟨c2, i2, h2⟩ := u_known (C := R_Sw) (T := F_Sw) (N := 5) htw in_Sw (htw _ k_59)
  obtain ⟨c3, i3, h3⟩ := u_known (C := R_Mo) (T := F_Mo) (N := 15) htw in_Mo (htw _ k_138)
  obtain ⟨c4, i4, h4⟩ := u_known (C := R_Me) (T := F_Me) (N := 4) htw in_Me (htw _ k_144)
  obtain ⟨c5, i5, h5⟩ := u_known (C := R_Gr) (T := F_Gr) (N := 6) htw in_Gr (htw _ k_69)
  obtain ⟨c6, i6, h6⟩ := u_known (C := R_Ce) (T := F_Ce) (N := 2) htw in_Ce (htw _ k_103)
  obtain ⟨c7, i7, h7⟩ := u_known (C := R_Md) (T := F_Md) (N := 37) htw in_Md (htw _ k_760)
  obtain ⟨a0, x0, y0⟩ := st_arr (htw _ k_57)
  obtain ⟨a1, x1, y1⟩ := st_arr (htw _ k_56)
  obtain ⟨a2, x2, y2⟩ := st_arr (htw _ k_877)
  obtain ⟨a3, x3, y3⟩ := st_over (n := "TrunkCells$Mobile") (hts _ (tb_of 137 (by decide +kernel)))
  obtain ⟨a4, x4, y4⟩ := st_over (n := "TrunkCells$Group") (hts _ (tb_of 68 (by decide +kernel)))
  obtain ⟨a5, x5, y5⟩ := st_over (n := "TrunkCells$Cell") (hts _ (tb_of 102 (by decide +kernel)))
  obtain ⟨t, ht, hT⟩ := va_Tof (tm := .static "TrunkCells$Coder" "UNLIKE" "[J") (ty := .long) (N := 4) (f := unl) (A := Aw s) (by decide) (hs _ (by decide +kernel)) (va_eqt (hs _ (by decide +kernel))) (fun j hj => by
    rcases (show j = 0 ∨ j = 1 ∨ j = 2 ∨ j = 3 by omega) with rfl | rfl | rfl | rfl
    · exact va_eqtl (z := 0) (hs _ (by decide +kernel))
    · exact va_eqtl (z := 1099511627776) (hs _ (by decide +kernel))
    · exact va_eqtl (z := 1099511627776) (hs _ (by decide +kernel))
    · exact va_eqtl (z := 2199023255552) (hs _ (by decide +kernel))) hA
  refine ⟨(fun c => ([c0, c1, c2, c3, c4, c5, c6, c7] : List ClassId).getD c 0, fun c => ([i0, i1, i2, i3, i4, i5, i6, i7] : List (Nat → Nat)).getD c (fun _ => 0)), fun k => ([a0, a1, a2, a3, a4, a5] : List ClassId).getD k 0, ⟨fun c q hq => ?_, fun k q hq => ?_⟩, fun w hw => ?_, ⟨⟨t, va_Zof (hts _ (tb_of 320 (by decide +kernel))) (htw _ k_2) ht hA, hT⟩, va_Zqof (hts _ (tb_of 368 (by decide +kernel))) (htw _ k_11) (hs _ (by decide +kernel)) hA, va_Zqof (hts _ (tb_of 370 (by decide +kernel))) (htw _ k_11) (hs _ (by decide +kernel)) hA⟩, ⟨va_AO.of (hts _ (tb_of 137 (by decide +kernel))), va_AO.of (hts _ (tb_of 68 (by decide +kernel))), va_AO.of (hts _ (tb_of 102 (by decide +kernel)))⟩, fun w hw => ?_, fun k hk => ?_, fun r hr => ?_, ?_, ?_⟩
  · rcases c with _ | _ | _ | _ | _ | _ | _ | _ | c
    · cases hq; exact h0
    · cases hq; exact h1
    · cases hq; exact h2
    · cases hq; exact h3
    · cases hq; exact h4
    · cases hq; exact h5
    · cases hq; exact h6
    · cases hq; exact h7
    · cases hq
  · rcases k with _ | _ | _ | _ | _ | _ | k
    · cases hq; exact ⟨x0, y0⟩
    · cases hq; exact ⟨x1, y1⟩
    · cases hq; exact ⟨x2, y2⟩
    · cases hq; exact ⟨x3, y3⟩
    · cases hq; exact ⟨x4, y4⟩
    · cases hq; exact ⟨x5, y5⟩
    · cases hq
  · have q1 := List.mem_filter.mp hw
    have q2 := hts w (List.mem_append_right _ q1.1)
    have q3 := q1.2
    cases w <;> first | exact va_Nw.of rfl q2 | (simp [isNest] at q3)
  · have q1 := List.mem_filter.mp hw
    have q2 := q1.2
    rw [Bool.and_eq_true] at q2
    exact va_Nw.of q2.1 (hts w q1.1)
  · simp only [strs, List.mem_cons, List.not_mem_nil, or_false] at hk
    rcases hk with rfl | rfl | rfl | rfl | rfl | rfl
    · exact st_str (htw _ k_21) (hts _ (tb_of 382 (by decide +kernel)))
    · exact st_str (htw _ k_21) (hts _ (tb_of 470 (by decide +kernel)))
    · exact st_str (htw _ k_21) (hts _ (tb_of 488 (by decide +kernel)))
    · exact st_str (htw _ k_21) (hts _ (tb_of 533 (by decide +kernel)))
    · exact st_str (htw _ k_21) (hts _ (tb_of 544 (by decide +kernel)))
    · exact st_str (htw _ k_21) (hts _ (tb_of 561 (by decide +kernel)))
  · simp only [noC, List.mem_cons, List.not_mem_nil, or_false] at hr
    rcases hr with rfl | rfl | rfl
    · exact st_no (n := 6) (m := 6) (hs (Cond.not (Cond.castable "java/lang/IllegalStateException" "java/lang/IndexOutOfBoundsException")) (by decide +kernel)) (hts _ (tb_of 462 (by decide +kernel))) (hts _ (tb_of 342 (by decide +kernel)))
    · exact st_no (n := 6) (m := 6) (hs (Cond.not (Cond.castable "java/lang/IllegalArgumentException" "java/lang/IndexOutOfBoundsException")) (by decide +kernel)) (hts _ (tb_of 525 (by decide +kernel))) (hts _ (tb_of 342 (by decide +kernel)))
    · exact st_no (n := 6) (m := 6) (hs (Cond.not (Cond.castable "java/lang/IllegalStateException" "java/lang/IllegalArgumentException")) (by decide +kernel)) (hts _ (tb_of 462 (by decide +kernel))) (hts _ (tb_of 525 (by decide +kernel)))
  · have h := hts lsU (tb_of 368 (by decide +kernel))
    show lsU.before #[] s = true
    simp only [lsU, Cond.before, Cond.holds, Cond.value] at h ⊢
    exact h
  · have h := hts lsS (tb_of 370 (by decide +kernel))
    show lsS.before #[] s = true
    simp only [lsS, Cond.before, Cond.holds, Cond.value] at h ⊢
    exact h
section SI1
variable {p : Program} {l : Launch} {e : Env} {R : Room} {s : State} {m : MethodId} {args : Array Value} {below : List Frame} {meth : Method} {c : Code} {H : Heap} {locs : List Loc} {cells slots : Nat} {Q : State → Prop}
variable {cc : ByteArray} {pc nL : Nat} {ls : Array Slot} {rest st0 : List Value} {D : va_G} {κ : Nat → ClassId} {z : Nat} {A : Nat → Prop} {Xs Zs wc : va_W}
variable {y : MethodName} {bytes : ByteArray} {maxL k index mc ms : Nat} {rm : Room} {own : String} {As : List Value} {b : Nat}
theorem y_callIm (C : cC p m c cc nL s args own D κ z A) (hP : va_P D clA (Xs ++ (wc ++ Zs)) H) (hD : va_D A (Xs ++ (wc ++ Zs))) (hS : va_S A s.heap H locs) {post : SI → SJ → Prop} {fin : (Nat → Nat) → SI → SJ → va_W}
    (hM : Met l y WS rm (va_Pc (.ref b :: As) (cPre D κ z H.size wc)) (cQ2 D wc H.size post fin) mc ms (va_A wc H.size)) (q : xCal y bytes maxL none k) (hname : y.name = "<init>") (hin : Cond.instanceMethod y ∈ WS) (hl : Cond.methodLink own index y ∈ WS) (hrc : rm.cells = mc) (hrs : rm.slots = ms) (hRm : rm.frames + 1 ≤ R.frames ∧ 8 + (maxL + 11) + rm.locals ≤ R.locals)
    (hna : As.length = k) (hsize : ls.size = nL) (hstack : st0 = As.reverse ++ .ref b :: rest) (hW : (rest.map fun v => v.category).sum ≤ 8) (hdg : decode cc pc = .ok (.invokespecial index, 3)) (hf : cells + mc ≤ R.cells ∧ slots + ms ≤ R.slots)
    (kk : ∀ (Θ : Nat → Nat) (I : SI) (J : SJ) (H1 : Heap) (locs1 : List Loc), post I J → va_P D clA (Xs ++ (fin Θ I J ++ Zs)) H1 → va_D A (Xs ++ (fin Θ I J ++ Zs)) → va_S A s.heap H1 locs1 → W p l e R s m args below meth c H1 locs1 (cells + mc) (slots + ms) Q (F0 m (pc + 3) ls rest)) : W p l e R s m args below meth c H locs cells slots Q (F0 m pc ls st0) := by
  obtain ⟨C1, hK, hN, hG, hO, hz, hA, hAz⟩ := C
  obtain ⟨hPc, hDc⟩ := va_cut hP hD
  have hFc := va_fr hDc hS hA
  refine va_callv (va_runI (As := As) (rest := rest) C1 hM ⟨xCB2 C1.2.2.2.2 q hrc hrs hRm hl, hname, C1.2.2.2.2 _ hin⟩ ⟨cPre_blind, cPre_at hz hPc hK hDc hAz hN hG hO hS⟩ rfl hna hsize hstack (lv_room hW) hdg hf) hS (fun q _ h => hFc q h) hFc (fun u t H1 locs1 ht hvm hp hB hz1 hk1 hS1 => ?_)
  obtain ⟨hP1, hD1⟩ := hB
  rw [ht] at hP1
  obtain ⟨hP2, hD2⟩ := va_mid hP hD hk1 hFc hP1 hD1
  exact kk u.1 u.2.1 u.2.2 H1 locs1 hp hP2 hD2 hS1
end SI1
theorem va_prm {D : va_G} {cl : List vw_C} {A : Nat → Prop} {X Y Z : va_W} {H : Heap} (hP : va_P D cl (X ++ (Y ++ Z)) H) (hD : va_D A (X ++ (Y ++ Z))) : va_P D cl (Y ++ (X ++ Z)) H ∧ va_D A (Y ++ (X ++ Z)) := by
  rw [vP_mem] at hP ⊢
  rw [vD_mem] at hD ⊢
  obtain ⟨d1, d2⟩ := hD
  have mm : ∀ q, q ∈ Y ++ (X ++ Z) → q ∈ X ++ (Y ++ Z) := fun q hq => by
    simp only [List.mem_append] at hq ⊢
    rcases hq with h | h | h
    · exact Or.inr (Or.inl h)
    · exact Or.inl h
    · exact Or.inr (Or.inr h)
  rw [List.pairwise_append, List.pairwise_append] at d1
  obtain ⟨dX, ⟨dY, dZ, dYZ⟩, dXYZ⟩ := d1
  refine ⟨fun q hq => hP q (mm q hq), ?_, fun q hq => d2 q (mm q hq)⟩
  rw [List.pairwise_append, List.pairwise_append]
  refine ⟨dY, ⟨dX, dZ, fun a ha b hb => dXYZ a ha b (List.mem_append_right _ hb)⟩, fun a ha b hb => ?_⟩
  rcases List.mem_append.mp hb with h | h
  · exact fun e => dXYZ b h a (List.mem_append_left _ ha) e.symm
  · exact dYZ a ha b h
