/-! constructors: calls and what they leave -/
abbrev cQ2 (D : va_G) (ws : va_W) (sz : Nat) (post : SI → SJ → Prop) (fin : (Nat → Nat) → SI → SJ → va_W) : Array Value → State → Outcome → State → Prop := va_Qv (S := (Nat → Nat) × SI × SJ) (fun u => post u.2.1 u.2.2) (fun u t => va_P D clA (fin u.1 u.2.1 u.2.2) t.heap ∧ va_D (va_A ws sz) (fin u.1 u.2.1 u.2.2)) (va_A ws sz)
theorem va_P.at' {D : va_G} {cl : List vw_C} {ws ws' : va_W} {H : Heap} (h : va_P D cl ws H) (is : List Nat) (hs : is.map (fun i => ws[i]?) = ws'.map some) : va_P D cl ws' H := by
  intro k q hk
  have h1 : (is.map (fun i => ws[i]?))[k]? = some (some q) := by
    rw [hs, List.getElem?_map, hk]
    rfl
  rw [List.getElem?_map] at h1
  cases hi : is[k]? with
  | none =>
    rw [hi] at h1
    cases h1
  | some i =>
    rw [hi] at h1
    exact h i q (Option.some.inj h1)
theorem va_P.eqv {D : va_G} {cl : List vw_C} {ws : va_W} {H : Heap} (h : va_P D cl ws H) (k : Nat) {a : Nat} {cA : ClassId} {x y : vp_A} (hk : ws[k]? = some (a, .inl (cA, x))) (he : vp_cell cA x = vp_cell cA y) : va_P D cl (ws.set k (a, .inl (cA, y))) H := by
  intro j q hj
  by_cases e : j = k
  · subst e
    have hlt : j < ws.length := by
      rcases Nat.lt_or_ge j ws.length with l | l
      · exact l
      · rw [List.getElem?_eq_none l] at hk
        cases hk
    rw [List.getElem?_set_self hlt] at hj
    have e := Option.some.inj hj
    subst e
    have h1 := h j _ hk
    show H[a]? = some (vp_cell cA y)
    rw [← he]
    exact h1
  · rw [List.getElem?_set_ne (Ne.symm e)] at hj
    exact h j q hj
/-- what stands fast through a constructor -/
def cC (p : Program) (m : MethodId) (c : Code) (cc : ByteArray) (nL : Nat) (s : State) (args : Array Value) (own : String) (D : va_G) (κ : Nat → ClassId) (z : Nat) (A : Nat → Prop) : Prop := (p.tables.exec = Jvm.exec ∧ c.code = cc ∧ c.maxLocals = nL ∧ s.vm.findClass own = some m.cls ∧ ∀ w ∈ WS, w.before args s = true) ∧ va_K D clA (tysA κ) s ∧ NG s ∧ SG (fun q => z ≤ q) s ∧ AG s ∧ z ≤ s.heap.size ∧ (∀ q, s.heap.size ≤ q → A q) ∧ (∀ q, A q → z ≤ q)
theorem xA_of {n sz : Nat} {Θ : Nat → Nat} {X : EE} {I : SI} {J : SJ} (q : Nat) : va_A (xw n Θ X I J) sz q ↔ xA n Θ sz q := by
  constructor
  · intro h
    rcases h with ⟨k, e, h⟩ | h
    · obtain ⟨h1, h2⟩ := xw_of h
      exact Or.inl ⟨k, h1, congrArg Prod.fst h2⟩
    · exact Or.inr h
  · intro h
    rcases h with ⟨o, ho, rfl⟩ | h
    · exact Or.inl ⟨o, _, xw_at ho rfl⟩
    · exact Or.inr h
theorem xJ_of {n : Nat} {Θ : Nat → Nat} {X : EE} {I : SI} {J : SJ} {A : Nat → Prop} (h : va_D A (xw n Θ X I J)) : xJ n Θ := fun i j hi hj e => h.1 i j _ _ (xw_at hi rfl) (xw_at hj rfl) e
section CI
variable {p : Program} {l : Launch} {e : Env} {R : Room} {s : State} {m : MethodId} {args : Array Value} {below : List Frame} {meth : Method} {c : Code} {H : Heap} {locs : List Loc} {cells slots : Nat} {Q : State → Prop}
variable {cc : ByteArray} {pc nL : Nat} {ls : Array Slot} {rest st0 : List Value} {D : va_G} {κ : Nat → ClassId} {z : Nat} {A : Nat → Prop} {ws wc wr : va_W}
variable {y : MethodName} {bytes : ByteArray} {maxL k index mc ms : Nat} {rm : Room} {own : String} {As : List Value} {b : Nat} {ret : Option FieldType}
theorem xCB2 (hts : ∀ w ∈ WS, w.before args s = true) (q : xCal y bytes maxL ret k) (hrc : rm.cells = mc) (hrs : rm.slots = ms) (hR : rm.frames + 1 ≤ R.frames ∧ 8 + (maxL + 11) + rm.locals ≤ R.locals) (hl : Cond.methodLink own index y ∈ WS) : CallB R s args own index y bytes maxL ret WS rm mc ms k := by
  obtain ⟨h1, h2, h3, h4, h5⟩ := q
  refine ⟨hrc, hrs, hR.1, hR.2, pay_in hts WS_good, h1, hts _ h1, hts _ h2, ⟨h3, h4⟩, fun sig h => ?_, hts _ hl⟩
  rw [h] at h5
  exact (Option.some.inj h5).symm
theorem xCN2 {host : String} (hts : ∀ w ∈ WS, w.before args s = true) (hN : NG s) (q : xCal y bytes maxL ret k) (hrc : rm.cells = mc) (hrs : rm.slots = ms) (hR : rm.frames + 1 ≤ R.frames ∧ 8 + (maxL + 11) + rm.locals ≤ R.locals) (hl : Cond.methodLinkNest own index y host ∈ NW) : va_CN R s args own index y host bytes maxL ret WS rm mc ms k := by
  obtain ⟨h1, h2, h3, h4, h5⟩ := q
  refine ⟨⟨hrc, hrs, hR.1, hR.2, pay_in hts WS_good, h1⟩, hts _ h1, hts _ h2, ⟨h3, h4⟩, fun sig h => ?_, va_Nw.use rfl (hN _ hl)⟩
  rw [h] at h5
  exact (Option.some.inj h5).symm
theorem y_callI (C : cC p m c cc nL s args own D κ z A) (hP : va_P D clA ws H) (hD : va_D A ws) (hS : va_S A s.heap H locs) (isC isR : List Nat) (hC : isC.map (fun i => ws[i]?) = wc.map some) (hnC : va_nd isC = true) (hR : isR.map (fun i => ws[i]?) = wr.map some) (hn : va_nd isR = true) (hdis : ∀ i ∈ isR, i ∉ isC) {post : SI → SJ → Prop} {fin : (Nat → Nat) → SI → SJ → va_W}
    (hM : Met l y WS rm (va_Pc (.ref b :: As) (cPre D κ z H.size wc)) (cQ2 D wc H.size post fin) mc ms (va_A wc H.size)) (q : xCal y bytes maxL none k) (hname : y.name = "<init>") (hin : Cond.instanceMethod y ∈ WS) (hl : Cond.methodLink own index y ∈ WS) (hrc : rm.cells = mc) (hrs : rm.slots = ms) (hRm : rm.frames + 1 ≤ R.frames ∧ 8 + (maxL + 11) + rm.locals ≤ R.locals)
    (hna : As.length = k) (hsize : ls.size = nL) (hstack : st0 = As.reverse ++ .ref b :: rest) (hW : (rest.map fun v => v.category).sum ≤ 8) (hdg : decode cc pc = .ok (.invokespecial index, 3)) (hf : cells + mc ≤ R.cells ∧ slots + ms ≤ R.slots)
    (kk : ∀ (Θ : Nat → Nat) (I : SI) (J : SJ) (H1 : Heap) (locs1 : List Loc), post I J → va_P D clA (wr ++ fin Θ I J) H1 → va_D A (wr ++ fin Θ I J) → va_S A s.heap H1 locs1 → W p l e R s m args below meth c H1 locs1 (cells + mc) (slots + ms) Q (F0 m (pc + 3) ls rest)) : W p l e R s m args below meth c H locs cells slots Q (F0 m pc ls st0) := by
  obtain ⟨C1, hK, hN, hG, hO, hz, hA, hAz⟩ := C
  have hPc := hP.at' isC hC
  have hDc := hD.sub isC hnC hC
  have hFc := va_free hD hS hA isC hC
  refine va_callv (va_runI (As := As) (rest := rest) C1 hM ⟨xCB2 C1.2.2.2.2 q hrc hrs hRm hl, hname, C1.2.2.2.2 _ hin⟩ ⟨cPre_blind, cPre_at hz hPc hK hDc hAz hN hG hO hS⟩ rfl hna hsize hstack (lv_room hW) hdg hf) hS (fun q _ h => hFc q h) hFc (fun u t H1 locs1 ht hvm hp hB hz1 hk1 hS1 => ?_)
  obtain ⟨hP1, hD1⟩ := hB
  rw [ht] at hP1
  obtain ⟨hP2, hD2⟩ := va_join (wr := wr) hP hD isC isR hC hR hn hdis hk1 hFc hP1 hD1
  exact kk u.1 u.2.1 u.2.2 H1 locs1 hp hP2 hD2 hS1
theorem y_callIN {host : String} (C : cC p m c cc nL s args own D κ z A) (hP : va_P D clA ws H) (hD : va_D A ws) (hS : va_S A s.heap H locs) (isC isR : List Nat) (hC : isC.map (fun i => ws[i]?) = wc.map some) (hnC : va_nd isC = true) (hR : isR.map (fun i => ws[i]?) = wr.map some) (hn : va_nd isR = true) (hdis : ∀ i ∈ isR, i ∉ isC) {post : SI → SJ → Prop} {fin : (Nat → Nat) → SI → SJ → va_W}
    (hM : Met l y WS rm (va_Pc (.ref b :: As) (cPre D κ z H.size wc)) (cQ2 D wc H.size post fin) mc ms (va_A wc H.size)) (q : xCal y bytes maxL none k) (hname : y.name = "<init>") (hin : Cond.instanceMethod y ∈ WS) (hl : Cond.methodLinkNest own index y host ∈ NW) (hrc : rm.cells = mc) (hrs : rm.slots = ms) (hRm : rm.frames + 1 ≤ R.frames ∧ 8 + (maxL + 11) + rm.locals ≤ R.locals)
    (hna : As.length = k) (hsize : ls.size = nL) (hstack : st0 = As.reverse ++ .ref b :: rest) (hW : (rest.map fun v => v.category).sum ≤ 8) (hdg : decode cc pc = .ok (.invokespecial index, 3)) (hf : cells + mc ≤ R.cells ∧ slots + ms ≤ R.slots)
    (kk : ∀ (Θ : Nat → Nat) (I : SI) (J : SJ) (H1 : Heap) (locs1 : List Loc), post I J → va_P D clA (wr ++ fin Θ I J) H1 → va_D A (wr ++ fin Θ I J) → va_S A s.heap H1 locs1 → W p l e R s m args below meth c H1 locs1 (cells + mc) (slots + ms) Q (F0 m (pc + 3) ls rest)) : W p l e R s m args below meth c H locs cells slots Q (F0 m pc ls st0) := by
  obtain ⟨C1, hK, hN, hG, hO, hz, hA, hAz⟩ := C
  have hPc := hP.at' isC hC
  have hDc := hD.sub isC hnC hC
  have hFc := va_free hD hS hA isC hC
  refine va_callv (va_runIN (As := As) (rest := rest) C1 hM ⟨xCN2 C1.2.2.2.2 hN q hrc hrs hRm hl, hname, C1.2.2.2.2 _ hin⟩ ⟨cPre_blind, cPre_at hz hPc hK hDc hAz hN hG hO hS⟩ rfl hna hsize hstack (lv_room hW) hdg hf) hS (fun q _ h => hFc q h) hFc (fun u t H1 locs1 ht hvm hp hB hz1 hk1 hS1 => ?_)
  obtain ⟨hP1, hD1⟩ := hB
  rw [ht] at hP1
  obtain ⟨hP2, hD2⟩ := va_join (wr := wr) hP hD isC isR hC hR hn hdis hk1 hFc hP1 hD1
  exact kk u.1 u.2.1 u.2.2 H1 locs1 hp hP2 hD2 hS1
/-- what a method of a small world finds inside a constructor -/
theorem y_pre {n : Nat} {Θ : Nat → Nat} {X : EE} {I : SI} {J : SJ} (C : cC p m c cc nL s args own D κ z A) (hP : va_P D clA (xw n Θ X I J) H) (hD : va_D A (xw n Θ X I J)) (hS : va_S A s.heap H locs) : ∀ U : State, U.heap = H → s.WarmedH U.vm → va_Pc As (xPR D clA (tysA κ) n Θ X H.size I J) As.toArray U := by
  obtain ⟨C1, hK, hN, hG, hO, hz, hA, hAz⟩ := C
  intro U hU hW
  subst hU
  have hF := va_free hD hS hA (List.range n) (wc := xw n Θ X I J) (by
    apply List.ext_getElem?
    intro k
    rw [List.getElem?_map, List.getElem?_map]
    by_cases hk : k < n
    · rw [xw_at hk rfl]
      simp [hk, xw_at hk rfl]
    · rw [xw_none hk]
      simp [hk])
  exact ⟨rfl, Nat.le_refl _, hP, va_K.moved hW.alike hK, hN.warm hW, (hG.go hW.alike (fun a h1 h2 => hS.2.1 a h1 (fun h => h2 (hAz _ h)))).narrow (fun q h => hAz _ (hF q ((xA_of q).mpr h)))⟩
end CI
