/-! the law's calls: a piece of its cells is cut out, and comes back changed -/
theorem vP_mem {D : va_G} {cl : List vw_C} {ws : va_W} {H : Heap} : va_P D cl ws H ↔ ∀ q ∈ ws, va_at D cl q H := by
  constructor
  · intro h q hq
    obtain ⟨k, hk, e⟩ := List.mem_iff_getElem.mp hq
    exact h k q (by rw [List.getElem?_eq_getElem hk, e])
  · intro h k q hk
    exact h q (List.mem_of_getElem? hk)
theorem vD_mem {A : Nat → Prop} {ws : va_W} : va_D A ws ↔ ws.Pairwise (fun a b => a.1 ≠ b.1) ∧ ∀ q ∈ ws, A q.1 := by
  constructor
  · intro h
    refine ⟨List.pairwise_iff_getElem.mpr (fun i j hi hj hij e => ?_), fun q hq => ?_⟩
    · have := h.1 i j _ _ (List.getElem?_eq_getElem hi) (List.getElem?_eq_getElem hj) e
      omega
    · obtain ⟨k, hk, e⟩ := List.mem_iff_getElem.mp hq
      exact h.2 k q (by rw [List.getElem?_eq_getElem hk, e])
  · intro ⟨h1, h2⟩
    refine ⟨fun i j p q hi hj e => ?_, fun k q hk => h2 q (List.mem_of_getElem? hk)⟩
    obtain ⟨li, ei⟩ := List.getElem?_eq_some_iff.mp hi
    obtain ⟨lj, ej⟩ := List.getElem?_eq_some_iff.mp hj
    rcases Nat.lt_trichotomy i j with l | l | l
    · exact absurd (by rw [ei, ej]; exact e) (List.pairwise_iff_getElem.mp h1 i j li lj l)
    · exact l
    · exact absurd (by rw [ei, ej]; exact e.symm) (List.pairwise_iff_getElem.mp h1 j i lj li l)
theorem va_mid {D : va_G} {cl : List vw_C} {A : Nat → Prop} {X Y Y' Z : va_W} {H H1 : Heap} (hP : va_P D cl (X ++ (Y ++ Z)) H) (hD : va_D A (X ++ (Y ++ Z))) (hk : ∀ q : Nat, q < H.size → ¬ va_A Y H.size q → H1[q]? = H[q]?) (hF : ∀ q, va_A Y H.size q → A q) (hP1 : va_P D cl Y' H1) (hD1 : va_D (va_A Y H.size) Y') : va_P D cl (X ++ (Y' ++ Z)) H1 ∧ va_D A (X ++ (Y' ++ Z)) := by
  rw [vP_mem] at hP hP1 ⊢
  rw [vD_mem] at hD hD1 ⊢
  obtain ⟨d1, d2⟩ := hD
  obtain ⟨e1, e2⟩ := hD1
  rw [List.pairwise_append] at d1
  obtain ⟨dX, dYZ, dXY⟩ := d1
  rw [List.pairwise_append] at dYZ
  obtain ⟨dY, dZ, dYZ⟩ := dYZ
  have yOf : ∀ (q : Nat), (∃ (k : Nat) (e : va_E), Y[k]? = some (q, e)) → ∃ y ∈ Y, y.1 = q := fun q ⟨k, e, h⟩ => ⟨(q, e), List.mem_of_getElem? h, rfl⟩
  have nX : ∀ x ∈ X, ¬ va_A Y H.size x.1 := fun x hx h => by
    rcases h with h | h
    · obtain ⟨y, hy, e⟩ := yOf _ h
      exact dXY x hx y (List.mem_append_left _ hy) e.symm
    · exact absurd (hP x (List.mem_append_left _ hx)).lt (by omega)
  have nZ : ∀ x ∈ Z, ¬ va_A Y H.size x.1 := fun x hx h => by
    rcases h with h | h
    · obtain ⟨y, hy, e⟩ := yOf _ h
      exact dYZ y hy x hx e
    · exact absurd (hP x (List.mem_append_right _ (List.mem_append_right _ hx))).lt (by omega)
  refine ⟨fun q hq => ?_, ?_, fun q hq => ?_⟩
  · rcases List.mem_append.mp hq with h | h
    · exact (hP q (List.mem_append_left _ h)).kept (hk _ (hP q (List.mem_append_left _ h)).lt (nX q h))
    · rcases List.mem_append.mp h with h | h
      · exact hP1 q h
      · have h' := hP q (List.mem_append_right _ (List.mem_append_right _ h))
        exact h'.kept (hk _ h'.lt (nZ q h))
  · rw [List.pairwise_append, List.pairwise_append]
    refine ⟨dX, ⟨e1, dZ, fun a ha b hb e => nZ b hb (by rw [← e]; exact e2 a ha)⟩, fun a ha b hb e => ?_⟩
    rcases List.mem_append.mp hb with h | h
    · exact nX a ha (by rw [e]; exact e2 b h)
    · exact dXY a ha b (List.mem_append_right _ h) e
  · rcases List.mem_append.mp hq with h | h
    · exact d2 q (List.mem_append_left _ h)
    · rcases List.mem_append.mp h with h | h
      · exact hF _ (e2 q h)
      · exact d2 q (List.mem_append_right _ (List.mem_append_right _ h))
theorem va_cut {D : va_G} {cl : List vw_C} {A : Nat → Prop} {X Y Z : va_W} {H : Heap} (hP : va_P D cl (X ++ (Y ++ Z)) H) (hD : va_D A (X ++ (Y ++ Z))) : va_P D cl Y H ∧ va_D A Y := by
  rw [vP_mem] at hP ⊢
  rw [vD_mem] at hD ⊢
  obtain ⟨d1, d2⟩ := hD
  rw [List.pairwise_append, List.pairwise_append] at d1
  exact ⟨fun q hq => hP q (List.mem_append_right _ (List.mem_append_left _ hq)), d1.2.1.1, fun q hq => d2 q (List.mem_append_right _ (List.mem_append_left _ hq))⟩
theorem va_fr {A : Nat → Prop} {Y : va_W} {H0 H : Heap} {locs : List Loc} (hD : va_D A Y) (hS : va_S A H0 H locs) (hA : ∀ q, H0.size ≤ q → A q) : ∀ q, va_A Y H.size q → A q := fun q hq => by
  rcases hq with ⟨k, e, h⟩ | h
  · exact hD.2 k _ h
  · exact hA q (Nat.le_trans hS.1 h)
section LC
variable {p : Program} {l : Launch} {e : Env} {R : Room} {s : State} {m : MethodId} {args : Array Value} {below : List Frame} {meth : Method} {c : Code} {H : Heap} {locs : List Loc} {cells slots : Nat} {Q : State → Prop}
variable {cc : ByteArray} {pc nL : Nat} {ls : Array Slot} {rest st0 : List Value} {D : va_G} {κ : Nat → ClassId} {z : Nat} {A : Nat → Prop} {Xs Zs : va_W}
variable {y : MethodName} {bytes : ByteArray} {maxL k index n ci N : Nat} {rm : Room} {own : String} {As : List Value} {ret : Option FieldType} {Θ : Nat → Nat} {X : EE} {I : SI} {J : SJ} {T0 : u_T} {fs : List Value}
/-- a static method with a table of its own -/
theorem y_runSW {hh : List (Nat × Nat × Nat × Nat)} {mc ms : Nat} {Pc : Array Value → State → Prop} {Qc : Array Value → State → Outcome → State → Prop} {free : Addr → Prop} (S : CallFix p m c cc nL s args WS own) (hM : Met l y WS rm Pc Qc mc ms free) (hcw : Cond.codeWith y bytes maxL ret hh ∈ WS) (hini : Cond.initialized y.cls ∈ WS) (hy : (y.cls ≠ "java/lang/invoke/MethodHandle" ∧ y.cls ≠ "java/lang/invoke/VarHandle") ∧ (parseMethodDescriptor y.desc).map (fun d => d.parameters.length) = some k) (hstat : Cond.static y ∈ WS) (hl : Cond.methodLink own index y ∈ WS) (hrc : rm.cells = mc) (hrs : rm.slots = ms) (hRm : rm.frames + 1 ≤ R.frames ∧ 8 + (maxL + 11) + rm.locals ≤ R.locals) (hp : PreS s H Pc As)
    (hn : As.length = k) (hsize : ls.size = nL) (hstack : st0 = As.reverse ++ rest) (hW : (rest.map fun v => v.category).sum ≤ 8) (hdg : decode cc pc = .ok (.invokestatic index, 3)) (hf : cells + mc ≤ R.cells ∧ slots + ms ≤ R.slots) :
    va_Run p l e R s m args below meth c H locs cells slots mc ms (F0 m pc ls st0) rest (Qc As.toArray) free := by
  have hts : ∀ w ∈ WS, w.before args s = true := S.2.2.2.2
  have hK : Back l R p e below s args y 3 8 (PreOf R mc ms Pc) (PostOf Qc mc ms free) := va_backW (hh := hh) (bytes := bytes) (maxL := maxL) (ret := ret) hM hp.1 hrc hrs hRm.1 hRm.2 (pay_in hts WS_good) hcw (fun a' U hW => word_at hW (Or.inl (by first | rfl | simp [Cond.onTables, Cond.keeps, Cond.steady])) (hts _ hini))
  obtain ⟨hx, hb, hml, ho, -⟩ := S
  obtain ⟨mk, methM, cM, hnamed, hmethM, -, -, -, -, -, -, hsigM⟩ := Cond.codeWith_spec (hts _ hcw)
  have hstatic : methM.isStatic = true := Cond.static_spec hnamed hmethM (hts _ hstat)
  obtain ⟨kP, hkP, -⟩ := className_of_methodNamed hnamed
  have hinitP : kP.init = .initialized := Cond.initialized_spec (findClass_of_methodNamed hnamed) hkP (hts _ hini)
  have hlen : As.length = methM.sig.parameters.length := by
    have h5 := hy.2
    rw [hsigM] at h5
    exact hn.trans (Option.some.inj h5).symm
  intro T hT Y
  obtain ⟨vm₁, Y₁, hstep₁⟩ := Y.invokestatic hx ho (hts _ hl) hnamed hmethM hstatic hkP hinitP hy.1 (g := F0 m pc ls st0) rfl (argsL := As) (rest := rest) hlen hstack (by rw [hb]; exact hdg)
  obtain ⟨v, ⟨U', l2, c2, s2⟩, Y', ⟨g', mk2, t, L, e1, e2, hq, h1, hL, h2, h3⟩, hsteps⟩ := hK m meth c ⟨T.setVm vm₁, locs, cells, slots⟩ { F0 m pc ls st0 with stack := rest } (.invokestatic index) mk As.toArray Y₁ rfl (hsize.trans hml.symm) (by rw [hb]; exact hdg) (lv_room hW) (Y₁.named hnamed) ⟨hf.1, hf.2, hp.2 (T.setVm vm₁) hT Y₁.warmed⟩
  dsimp only [Pt.U, Pt.locs, Pt.cells, Pt.slots] at Y' e1 e2 h1 h2 h3 hsteps
  subst h1; subst h2; subst h3
  exact ⟨v, (T.setVm vm₁).calling g' mk2 As.toArray, t, U', L, hT, Y', hL, e1, e2, hq, fun target h => hstep₁ _ fun acts => by rw [doInvoke_state]; exact hsteps.trans h⟩
theorem y_TG {U : State} (C : cC p m c cc nL s args own D κ z A) (hT : TG s) (hS : va_S A s.heap H locs) (hU : U.heap = H) (hW : s.WarmedH U.vm) : TG U := by
  obtain ⟨C1, hK, hN, hG, hO, hz, hA, hAz⟩ := C
  subst hU
  exact hT.go hW hG (fun a h1 h2 => hS.2.1 a h1 (fun h => h2 (hAz _ h)))
theorem y_Hi {hh : List (Nat × Nat × Nat × Nat)} {post : Int32 → SI → SJ → Prop} (C : cC p m c cc nL s args own D κ z A) (hT : TG s) (hP : va_P D clA (Xs ++ (xw n Θ X I J ++ Zs)) H) (hD : va_D A (Xs ++ (xw n Θ X I J ++ Zs))) (hS : va_S A s.heap H locs)
    (hM : xJ n Θ → Met l y WS rm (va_Pc As (xPX D clA (tysA κ) n Θ X H.size I J)) (xQi D clA n Θ X H.size post) 1 6 (xA n Θ H.size)) (hcw : Cond.codeWith y bytes maxL ret hh ∈ WS) (hini : Cond.initialized y.cls ∈ WS) (hy : (y.cls ≠ "java/lang/invoke/MethodHandle" ∧ y.cls ≠ "java/lang/invoke/VarHandle") ∧ (parseMethodDescriptor y.desc).map (fun d => d.parameters.length) = some k) (hstat : Cond.static y ∈ WS) (hl : Cond.methodLink own index y ∈ WS) (hrc : rm.cells = 1) (hrs : rm.slots = 6) (hRm : rm.frames + 1 ≤ R.frames ∧ 8 + (maxL + 11) + rm.locals ≤ R.locals)
    (hn : As.length = k) (hsize : ls.size = nL) (hstack : st0 = As.reverse ++ rest) (hW : (rest.map fun v => v.category).sum ≤ 8) (hdg : decode cc pc = .ok (.invokestatic index, 3)) (hf : cells + 1 ≤ R.cells ∧ slots + 6 ≤ R.slots)
    (kk : ∀ (r : Int32) (I1 : SI) (J1 : SJ) (H1 : Heap) (locs1 : List Loc), post r I1 J1 → va_P D clA (Xs ++ (xw n Θ X I1 J1 ++ Zs)) H1 → va_D A (Xs ++ (xw n Θ X I1 J1 ++ Zs)) → va_S A s.heap H1 locs1 → W p l e R s m args below meth c H1 locs1 (cells + 1) (slots + 6) Q (F0 m (pc + 3) ls (.int r :: rest))) : W p l e R s m args below meth c H locs cells slots Q (F0 m pc ls st0) := by
  obtain ⟨hPc, hDc⟩ := va_cut hP hD
  have hΘ := xJ_of hDc
  have hF := va_fr hDc hS C.2.2.2.2.2.2.1
  have hF' : ∀ q, xA n Θ H.size q → A q := fun q h => hF q ((xA_of q).mpr h)
  refine va_calli (y_runSW (As := As) (rest := rest) C.1 (hM hΘ) hcw hini hy hstat hl hrc hrs hRm ⟨xPX_blind, fun U hU hW => ⟨rfl, (y_pre (As := As) C hPc hDc hS U hU hW).2, by rw [hU], y_TG C hT hS hU hW⟩⟩ hn hsize hstack hW hdg hf) hS (fun q _ h => hF' q h) hF' (fun r u t H1 locs1 ht hvm hp hB hz1 hk1 hS1 => ?_)
  rw [ht] at hB
  obtain ⟨hP2, hD2⟩ := va_mid (Y' := xw n Θ X u.1 u.2) hP hD (fun q h1 h2 => hk1 q h1 (fun h3 => h2 ((xA_of q).mpr h3))) hF hB ((xw_D (sz := H.size) hΘ).weaken (fun _ q _ h => (xA_of q.1).mpr h))
  exact kk r u.1 u.2 H1 locs1 hp hP2 hD2 hS1
theorem y_Vi {post : Int32 → SI → SJ → Prop} (C : cC p m c cc nL s args own D κ z A) (hP : va_P D clA (Xs ++ (xw n Θ X I J ++ Zs)) H) (hD : va_D A (Xs ++ (xw n Θ X I J ++ Zs))) (hS : va_S A s.heap H locs) (ho : 0 < n) (hE : X 0 (I 0) (J 0) = .inr (ci, fs)) (hc : clA[ci]? = some (y.cls, T0, N))
    (hM : xJ n Θ → Met l y WS rm (va_Pc (.ref (Θ 0) :: As) (xPR D clA (tysA κ) n Θ X H.size I J)) (xQi D clA n Θ X H.size post) 0 0 (xA n Θ H.size)) (q : xCal y bytes maxL ret k) (hin : Cond.instanceMethod y ∈ WS) (hse : Cond.selects y.cls y y ∈ WS) (hl : Cond.methodLink own index y ∈ WS) (hrc : rm.cells = 0) (hrs : rm.slots = 0) (hRm : rm.frames + 1 ≤ R.frames ∧ 8 + (maxL + 11) + rm.locals ≤ R.locals)
    (hn : As.length = k) (hsize : ls.size = nL) (hstack : st0 = As.reverse ++ .ref (Θ 0) :: rest) (hW : (rest.map fun v => v.category).sum ≤ 8) (hdg : decode cc pc = .ok (.invokevirtual index, 3)) (hf : cells + 0 ≤ R.cells ∧ slots + 0 ≤ R.slots)
    (kk : ∀ (r : Int32) (I1 : SI) (J1 : SJ) (H1 : Heap) (locs1 : List Loc), post r I1 J1 → va_P D clA (Xs ++ (xw n Θ X I1 J1 ++ Zs)) H1 → va_D A (Xs ++ (xw n Θ X I1 J1 ++ Zs)) → va_S A s.heap H1 locs1 → W p l e R s m args below meth c H1 locs1 cells slots Q (F0 m (pc + 3) ls (.int r :: rest))) : W p l e R s m args below meth c H locs cells slots Q (F0 m pc ls st0) := by
  obtain ⟨hPc, hDc⟩ := va_cut hP hD
  have hΘ := xJ_of hDc
  have hF := va_fr hDc hS C.2.2.2.2.2.2.1
  have hF' : ∀ q, xA n Θ H.size q → A q := fun q h => hF q ((xA_of q).mpr h)
  refine va_calli (cells := cells) (slots := slots) (va_runV (b := Θ 0) (As := As) (rest := rest) C.1 (hM hΘ) ⟨xCB2 C.1.2.2.2.2 q hrc hrs hRm hl, C.1.2.2.2.2 _ hin, C.1.2.2.2.2 _ hse⟩ ⟨xPR_blind, va_recv C.2.1 hPc hc (xw_at ho hE), y_pre C hPc hDc hS⟩ rfl hn hsize hstack (lv_room hW) hdg hf) hS (fun q _ h => hF' q h) hF' (fun r u t H1 locs1 ht hvm hp hB hz1 hk1 hS1 => ?_)
  rw [ht] at hB
  obtain ⟨hP2, hD2⟩ := va_mid (Y' := xw n Θ X u.1 u.2) hP hD (fun q h1 h2 => hk1 q h1 (fun h3 => h2 ((xA_of q).mpr h3))) hF hB ((xw_D (sz := H.size) hΘ).weaken (fun _ q _ h => (xA_of q.1).mpr h))
  exact kk r u.1 u.2 H1 locs1 hp hP2 hD2 hS1
theorem y_Vl {post : Int64 → SI → SJ → Prop} (C : cC p m c cc nL s args own D κ z A) (hP : va_P D clA (Xs ++ (xw n Θ X I J ++ Zs)) H) (hD : va_D A (Xs ++ (xw n Θ X I J ++ Zs))) (hS : va_S A s.heap H locs) (ho : 0 < n) (hE : X 0 (I 0) (J 0) = .inr (ci, fs)) (hc : clA[ci]? = some (y.cls, T0, N))
    (hM : xJ n Θ → Met l y WS rm (va_Pc (.ref (Θ 0) :: As) (xPR D clA (tysA κ) n Θ X H.size I J)) (xQl D clA n Θ X H.size post) 0 0 (xA n Θ H.size)) (q : xCal y bytes maxL ret k) (hin : Cond.instanceMethod y ∈ WS) (hse : Cond.selects y.cls y y ∈ WS) (hl : Cond.methodLink own index y ∈ WS) (hrc : rm.cells = 0) (hrs : rm.slots = 0) (hRm : rm.frames + 1 ≤ R.frames ∧ 8 + (maxL + 11) + rm.locals ≤ R.locals)
    (hn : As.length = k) (hsize : ls.size = nL) (hstack : st0 = As.reverse ++ .ref (Θ 0) :: rest) (hW : (rest.map fun v => v.category).sum ≤ 8) (hdg : decode cc pc = .ok (.invokevirtual index, 3)) (hf : cells + 0 ≤ R.cells ∧ slots + 0 ≤ R.slots)
    (kk : ∀ (r : Int64) (I1 : SI) (J1 : SJ) (H1 : Heap) (locs1 : List Loc), post r I1 J1 → va_P D clA (Xs ++ (xw n Θ X I1 J1 ++ Zs)) H1 → va_D A (Xs ++ (xw n Θ X I1 J1 ++ Zs)) → va_S A s.heap H1 locs1 → W p l e R s m args below meth c H1 locs1 cells slots Q (F0 m (pc + 3) ls (.long r :: rest))) : W p l e R s m args below meth c H locs cells slots Q (F0 m pc ls st0) := by
  obtain ⟨hPc, hDc⟩ := va_cut hP hD
  have hΘ := xJ_of hDc
  have hF := va_fr hDc hS C.2.2.2.2.2.2.1
  have hF' : ∀ q, xA n Θ H.size q → A q := fun q h => hF q ((xA_of q).mpr h)
  refine va_calll (cells := cells) (slots := slots) (va_runV (b := Θ 0) (As := As) (rest := rest) C.1 (hM hΘ) ⟨xCB2 C.1.2.2.2.2 q hrc hrs hRm hl, C.1.2.2.2.2 _ hin, C.1.2.2.2.2 _ hse⟩ ⟨xPR_blind, va_recv C.2.1 hPc hc (xw_at ho hE), y_pre C hPc hDc hS⟩ rfl hn hsize hstack (lv_room hW) hdg hf) hS (fun q _ h => hF' q h) hF' (fun r u t H1 locs1 ht hvm hp hB hz1 hk1 hS1 => ?_)
  rw [ht] at hB
  obtain ⟨hP2, hD2⟩ := va_mid (Y' := xw n Θ X u.1 u.2) hP hD (fun q h1 h2 => hk1 q h1 (fun h3 => h2 ((xA_of q).mpr h3))) hF hB ((xw_D (sz := H.size) hΘ).weaken (fun _ q _ h => (xA_of q.1).mpr h))
  exact kk r u.1 u.2 H1 locs1 hp hP2 hD2 hS1
theorem y_Vv {post : SI → SJ → Prop} (C : cC p m c cc nL s args own D κ z A) (hP : va_P D clA (Xs ++ (xw n Θ X I J ++ Zs)) H) (hD : va_D A (Xs ++ (xw n Θ X I J ++ Zs))) (hS : va_S A s.heap H locs) (ho : 0 < n) (hE : X 0 (I 0) (J 0) = .inr (ci, fs)) (hc : clA[ci]? = some (y.cls, T0, N))
    (hM : xJ n Θ → Met l y WS rm (va_Pc (.ref (Θ 0) :: As) (xPR D clA (tysA κ) n Θ X H.size I J)) (xQv D clA n Θ X H.size post) 0 0 (xA n Θ H.size)) (q : xCal y bytes maxL ret k) (hin : Cond.instanceMethod y ∈ WS) (hse : Cond.selects y.cls y y ∈ WS) (hl : Cond.methodLink own index y ∈ WS) (hrc : rm.cells = 0) (hrs : rm.slots = 0) (hRm : rm.frames + 1 ≤ R.frames ∧ 8 + (maxL + 11) + rm.locals ≤ R.locals)
    (hn : As.length = k) (hsize : ls.size = nL) (hstack : st0 = As.reverse ++ .ref (Θ 0) :: rest) (hW : (rest.map fun v => v.category).sum ≤ 8) (hdg : decode cc pc = .ok (.invokevirtual index, 3)) (hf : cells + 0 ≤ R.cells ∧ slots + 0 ≤ R.slots)
    (kk : ∀ (I1 : SI) (J1 : SJ) (H1 : Heap) (locs1 : List Loc), post I1 J1 → va_P D clA (Xs ++ (xw n Θ X I1 J1 ++ Zs)) H1 → va_D A (Xs ++ (xw n Θ X I1 J1 ++ Zs)) → va_S A s.heap H1 locs1 → W p l e R s m args below meth c H1 locs1 cells slots Q (F0 m (pc + 3) ls rest)) : W p l e R s m args below meth c H locs cells slots Q (F0 m pc ls st0) := by
  obtain ⟨hPc, hDc⟩ := va_cut hP hD
  have hΘ := xJ_of hDc
  have hF := va_fr hDc hS C.2.2.2.2.2.2.1
  have hF' : ∀ q, xA n Θ H.size q → A q := fun q h => hF q ((xA_of q).mpr h)
  refine va_callv (cells := cells) (slots := slots) (va_runV (b := Θ 0) (As := As) (rest := rest) C.1 (hM hΘ) ⟨xCB2 C.1.2.2.2.2 q hrc hrs hRm hl, C.1.2.2.2.2 _ hin, C.1.2.2.2.2 _ hse⟩ ⟨xPR_blind, va_recv C.2.1 hPc hc (xw_at ho hE), y_pre C hPc hDc hS⟩ rfl hn hsize hstack (lv_room hW) hdg hf) hS (fun q _ h => hF' q h) hF' (fun u t H1 locs1 ht hvm hp hB hz1 hk1 hS1 => ?_)
  rw [ht] at hB
  obtain ⟨hP2, hD2⟩ := va_mid (Y' := xw n Θ X u.1 u.2) hP hD (fun q h1 h2 => hk1 q h1 (fun h3 => h2 ((xA_of q).mpr h3))) hF hB ((xw_D (sz := H.size) hΘ).weaken (fun _ q _ h => (xA_of q.1).mpr h))
  exact kk u.1 u.2 H1 locs1 hp hP2 hD2 hS1
end LC
