/-! a check that throws or changes nothing; the methods that make it -/
def xPX (D : va_G) (cl : List vw_C) (tys : List (ClassId × FieldType)) (n : Nat) (Θ : Nat → Nat) (X : EE) (sz : Nat) (I : SI) (J : SJ) : State → Prop := fun U => xPR D cl tys n Θ X sz I J U ∧ U.heap.size = sz ∧ TG U
theorem xPX_blind {D : va_G} {cl : List vw_C} {tys : List (ClassId × FieldType)} {n : Nat} {Θ : Nat → Nat} {X : EE} {sz : Nat} {I : SI} {J : SJ} {As : List Value} : FrameBlind (va_Pc As (xPX D cl tys n Θ X sz I J)) := by
  intro a U g mk h
  obtain ⟨h0, h1, h2, h3⟩ := h
  exact ⟨h0, (xPR_blind a U g mk ⟨h0, h1⟩).2, h2, TG.same (u := U) rfl rfl h3⟩
/-- where nothing has been changed yet -/
theorem xPX_at {D : va_G} {cl : List vw_C} {tys : List (ClassId × FieldType)} {n : Nat} {Θ : Nat → Nat} {X : EE} {sz : Nat} {I : SI} {J : SJ} {As : List Value} {s : State} (hsz : s.heap.size = sz) (hP : va_P D cl (xw n Θ X I J) s.heap) (hK : va_K D cl tys s) (hN : NG s) (hG : SG (xA n Θ sz) s) (hT : TG s) :
    ∀ U : State, U.heap = s.heap → s.WarmedH U.vm → va_Pc As (xPX D cl tys n Θ X sz I J) As.toArray U := by
  intro U hU hW
  refine ⟨rfl, (xPR_at (As := As) (Nat.le_of_eq hsz.symm) hP hK hN hG va_S.rf U hU hW).2, by rw [hU]; exact hsz, hT.go hW hG (fun a _ _ => by rw [hU])⟩
def xQn (D : va_G) (cl : List vw_C) (n : Nat) (Θ : Nat → Nat) (X : EE) (I : SI) (J : SJ) (post : Prop) (exc : Nat → Prop) : Array Value → State → Outcome → State → List Loc → Nat → Nat → Prop := fun _ st oc t L k c => (oc = .returned none ∧ t.heap = st.heap ∧ L = [] ∧ k = 0 ∧ c = 0 ∧ post) ∨ (L = [] ∧ k ≤ 1 ∧ c ≤ 6 ∧ st.heap.size ≤ t.heap.size ∧ (∀ q : Nat, q < st.heap.size → t.heap[q]? = st.heap[q]?) ∧ ∃ a i : Nat, oc = .threw a ∧ exc i ∧ xEx i a t)
section XN
variable {p : Program} {l : Launch} {e : Env} {R : Room} {s : State} {m : MethodId} {args : Array Value} {below : List Frame} {meth : Method} {c : Code} {H : Heap} {locs : List Loc}
variable {cc : ByteArray} {pc : Nat} {ls : Array Slot} {rest st0 : List Value} {D : va_G} {cl : List vw_C} {tys : List (ClassId × FieldType)} {n sz : Nat} {Θ : Nat → Nat} {X : EE} {I : SI} {J : SJ}
variable {y : MethodName} {bytes : ByteArray} {maxL nL k index : Nat} {rt : Option FieldType} {rm : Room} {own : String} {As : List Value} {ret : Option Value → SI → SJ → Prop} {exc : Nat → SI → SJ → Prop} {post : Prop} {exc' : Nat → Prop}
/-- a check: it throws and so does the caller, or it goes on -/
theorem x_callN (C : xC p m c cc nL s args own D cl tys n Θ sz) (hT : TG s) (hsz : s.heap.size = sz) (hno : c.exceptionTable.toList = []) (hlocks : meth.locks = false) (hP : va_P D cl (xw n Θ X I J) s.heap) (hM : MetX l y WS rm (va_Pc As (xPX D cl tys n Θ X sz I J)) (xQn D cl n Θ X I J post exc')) (q : xCal y bytes maxL rt k) (hst : Cond.static y ∈ WS) (hl : Cond.methodLink own index y ∈ WS) (hrc : rm.cells ≤ R.cells) (hrs : rm.slots ≤ R.slots) (hR : rm.frames + 1 ≤ R.frames ∧ 8 + (maxL + 11) + rm.locals ≤ R.locals)
    (hn : As.length = k) (hsize : ls.size = nL) (hstack : st0 = As.reverse ++ rest) (hW : (rest.map fun v => v.category).sum ≤ 8) (hdg : decode cc pc = .ok (.invokestatic index, 3)) (hexc : ∀ i, exc' i → exc i I J)
    (kk : post → W p l e R s m args below meth c s.heap [] 0 0 (MQX below (xQx D cl n Θ X sz ret exc) args s) (F0 m (pc + 3) ls rest)) : W p l e R s m args below meth c s.heap [] 0 0 (MQX below (xQx D cl n Θ X sz ret exc) args s) (F0 m pc ls st0) := by
  intro T hTh Y
  have hts := C.1.2.2.2.2
  obtain ⟨q1, q2, q3, q4, q5⟩ := q
  have hcode := hts _ q1
  obtain ⟨mk, hnamed⟩ := Cond.code_named hcode
  obtain ⟨methM, cM, hmethM, -, -, -, -, -, -, hsigM⟩ := Cond.code_spec hnamed hcode
  have hstatic : methM.isStatic = true := Cond.static_spec hnamed hmethM (hts _ hst)
  obtain ⟨kP, hkP, -⟩ := className_of_methodNamed hnamed
  have hinitP : kP.init = .initialized := Cond.initialized_spec (findClass_of_methodNamed hnamed) hkP (hts _ q2)
  have hlen : As.length = methM.sig.parameters.length := by
    rw [hsigM] at q5
    exact hn.trans (Option.some.inj q5).symm
  obtain ⟨vm₁, Y₁, hstep₁⟩ := Y.invokestatic C.1.1 C.1.2.2.2.1 (hts _ hl) hnamed hmethM hstatic hkP hinitP ⟨q3, q4⟩ (g := F0 m pc ls st0) rfl (argsL := As) (rest := rest) hlen hstack (by rw [C.1.2.1]; exact hdg)
  have hws := pay_in hts WS_good
  obtain ⟨o, t, L, mc, ms, hQ, Y₂, hret, hthr⟩ := xBack (bytes := bytes) (maxL := maxL) (ret := rt) (W0 := 8) (len := 3) (a := As.toArray) (ig := .invokestatic index) hM hR.1 hR.2 Y₁ (g := { F0 m pc ls st0 with stack := rest }) rfl (hsize.trans C.1.2.2.1.symm) (by rw [C.1.2.1]; exact hdg) (lv_room hW) (Y₁.named hnamed) (atoms_intro fun w hw => hws w hw _ _ Y₁.warmed) (hws _ q1 _ _ Y₁.warmed) (word_at Y₁.warmed (Or.inl (by first | rfl | simp [Cond.onTables, Cond.keeps, Cond.steady])) (hts _ q2)) (by omega) (by omega)
    (xPX_blind _ _ _ _ (xPX_at hsz hP C.2.1 C.2.2.1 C.2.2.2.1 hT (T.setVm vm₁) hTh Y₁.warmed))
  rcases hQ with ⟨ho, hh, rfl, rfl, rfl, hpost⟩ | ⟨rfl, hk1, hc1, hz, hkp, a, i, ho, hx, hex⟩
  · subst ho
    have hTh' : t.heap = s.heap := hh.trans hTh
    obtain ⟨t2, a1, b1⟩ := kk hpost (({ T.setVm vm₁ with heap := t.heap, slotsUsed := t.slotsUsed } : State).setVm t.vm) hTh' Y₂
    exact ⟨t2, hstep₁ _ fun acts => by rw [doInvoke_state]; exact (hret none rfl).trans a1, b1⟩
  · subst ho
    have hkp' : ∀ q : Nat, q < s.heap.size → t.heap[q]? = s.heap[q]? := fun q hq => by
      have := hkp q (by show q < T.heap.size; rw [hTh]; exact hq)
      exact this.trans (by show T.heap[q]? = _; rw [hTh])
    have hz' : s.heap.size ≤ t.heap.size := by rw [← hTh]; exact hz
    obtain ⟨b1, b2, b3, b4, b5⟩ := Y₂.leaveThrown a (g := { F0 m pc ls st0 with stack := rest }) rfl rfl rfl (by rw [hno]; intro x hx; cases hx) hlocks
    refine ⟨_, hstep₁ _ fun acts => by rw [doInvoke_state]; exact (hthr a rfl).trans b1, .threw a, b2, b3, _, _, _, ⟨b4, b5⟩, (fun x hx => by cases hx), Or.inr ⟨by omega, by omega, a, i, I, J, rfl, hexc i hx, hP.kept (fun j z hz => hkp' z.1 (hP j z hz).lt), hex⟩, hz', fun q h1 _ => hkp' q h1⟩
/-- ends of methods that may throw -/
theorem x_vretX {post : SI → SJ → Prop} (hx : p.tables.exec = Jvm.exec) (hb : c.code = cc) (hr : meth.sig.returnType = none) (hlocks : meth.locks = false) (hP : va_P D cl (xw n Θ X I J) H) (hS : va_S (xA n Θ sz) s.heap H locs) (h : post I J) (hdg : decode cc pc = .ok (.return_, 1)) : W p l e R s m args below meth c H locs 0 0 (MQX below (xQx D cl n Θ X sz (fun v I J => v = none ∧ post I J) exc) args s) (F0 m pc ls []) := by
  refine xW_imp (fun t ht => ?_) (W.vret (Qc := fun _ st oc t => oc = .returned none ∧ t.heap = H) (free := xA n Θ sz) hx hb hr (fun t ht hW => ⟨rfl, ht⟩) hS.2.2 hdg hlocks)
  obtain ⟨o, a1, a2, ⟨rfl, a3⟩, L, ⟨-, a4, a5⟩, a6⟩ := ht
  exact ⟨_, a1, a2, L, 0, 0, ⟨a4, a5⟩, a6, Or.inl ⟨rfl, rfl, none, I, J, rfl, ⟨rfl, h⟩, by rw [a3]; exact hP⟩, hS.F a3⟩
theorem x_iretX {v : Int32} {post : Int32 → SI → SJ → Prop} (hx : p.tables.exec = Jvm.exec) (hb : c.code = cc) (hr : meth.sig.returnType = some .int) (hlocks : meth.locks = false) (hP : va_P D cl (xw n Θ X I J) H) (hS : va_S (xA n Θ sz) s.heap H locs) (h : post v I J) (hdg : decode cc pc = .ok (.ireturn, 1)) : W p l e R s m args below meth c H locs 0 0 (MQX below (xQx D cl n Θ X sz (fun w I J => ∃ r, w = some (.int r) ∧ post r I J) exc) args s) (F0 m pc ls [.int v]) := by
  refine xW_imp (fun t ht => ?_) (W.iret (Qc := fun _ st oc t => oc = .returned (some (.int v)) ∧ t.heap = H) (free := xA n Θ sz) hx hb hr (fun t ht hW => ⟨rfl, ht⟩) hS.2.2 hdg hlocks)
  obtain ⟨o, a1, a2, ⟨rfl, a3⟩, L, ⟨-, a4, a5⟩, a6⟩ := ht
  exact ⟨_, a1, a2, L, 0, 0, ⟨a4, a5⟩, a6, Or.inl ⟨rfl, rfl, _, I, J, rfl, ⟨v, rfl, h⟩, by rw [a3]; exact hP⟩, hS.F a3⟩
/-- the check's own end -/
theorem x_nret (hx : p.tables.exec = Jvm.exec) (hb : c.code = cc) (hr : meth.sig.returnType = none) (hlocks : meth.locks = false) (h : post) (hdg : decode cc pc = .ok (.return_, 1)) : W p l e R s m args below meth c s.heap [] 0 0 (MQX below (xQn D cl n Θ X I J post exc') args s) (F0 m pc ls []) := by
  refine xW_imp (fun t ht => ?_) (W.vret (Qc := fun _ st oc t => oc = .returned none ∧ t.heap = s.heap) (free := fun _ => False) hx hb hr (fun t ht hW => ⟨rfl, ht⟩) (fun q hq => by cases hq) hdg hlocks)
  obtain ⟨o, a1, a2, ⟨rfl, a3⟩, L, ⟨-, a4, a5⟩, a6⟩ := ht
  have hL : L = [] := by
    cases L with
    | nil => rfl
    | cons z _ => exact (a6 z (List.mem_cons_self ..)).elim
  subst hL
  exact ⟨_, a1, a2, [], 0, 0, ⟨a4, a5⟩, Or.inl ⟨rfl, a3, rfl, rfl, rfl, h⟩⟩
/-- what a throw must show -/
theorem x_qn {i : Nat} (h : exc' i) : ∀ t : State, s.WarmedH t.vm → s.heap.size ≤ t.heap.size → (∀ q : Nat, q < s.heap.size → t.heap[q]? = s.heap[q]?) → xEx i s.heap.size t → xQn D cl n Θ X I J post exc' args s (.threw s.heap.size) t [] 1 6 :=
  fun t _ h1 h2 h3 => Or.inr ⟨rfl, Nat.le_refl _, Nat.le_refl _, h1, h2, _, i, rfl, h, h3⟩
theorem x_qx {i : Nat} (hP : va_P D cl (xw n Θ X I J) s.heap) (h : exc i I J) : ∀ t : State, s.WarmedH t.vm → s.heap.size ≤ t.heap.size → (∀ q : Nat, q < s.heap.size → t.heap[q]? = s.heap[q]?) → xEx i s.heap.size t → xQx D cl n Θ X sz ret exc args s (.threw s.heap.size) t [] 1 6 :=
  fun t _ h1 h2 h3 => ⟨(fun x hx => by cases hx), Or.inr ⟨Nat.le_refl _, Nat.le_refl _, _, i, I, J, rfl, h, hP.kept (fun j z hz => h2 z.1 (hP j z hz).lt), h3⟩, h1, fun q h4 _ => h2 q h4⟩
end XN
