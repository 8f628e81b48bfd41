/-- the caller's table, by the words: its rows' exceptions are ks; the i-th exception goes to hpc -/
def xTab (own : String) (pc i hpc : Nat) : List (Nat × Nat × Nat × Nat) → List Nat → Prop
  | r :: t, k :: ks => (r.1 ≤ pc ∧ pc < r.2.1) ∧ r.2.2.2 ≠ 0 ∧ Cond.classLink own r.2.2.2 (xcl k) ∈ WS ∧ ((k = i ∧ hpc = r.2.2.1) ∨ ((xcl i, xcl k) ∈ noC ∧ xTab own pc i hpc t ks))
  | _, _ => False
theorem xTab_rows {s : State} {args : Array Value} {own : String} {d th : ClassId} {pl : Platform} (hpl : pl.magicAccessors = ({} : Platform).magicAccessors) (hown : s.vm.findClass own = some d) (hts : ∀ w ∈ WS, w.before args s = true) (hT : TG s) {pc i hpc : Nat} (hth : s.vm.findClass (xcl i) = some th) :
    ∀ (tb : List ExceptionTableEntry) (hs : List (Nat × Nat × Nat × Nat)) (ks : List Nat), tb.map (fun h => (h.startPc, h.endPc, h.handlerPc, h.catchType)) = hs → xTab own pc i hpc hs ks → xRows s pl d pc th hpc tb
  | [], hs, ks, hm, h => by
    subst hm
    exact h.elim
  | x :: t, hs, [], hm, h => by
    subst hm
    exact h.elim
  | x :: t, hs, k :: ks, hm, h => by
    subst hm
    obtain ⟨⟨h1, h2⟩, h3, h4, h5⟩ := h
    obtain ⟨c', hc', hcl⟩ := Cond.classLink_spec hown (hts _ h4) pl hpl
    refine ⟨by simp only [covers, Bool.and_eq_true, decide_eq_true_eq]; exact ⟨h1, h2⟩, h3, c', hcl, ?_⟩
    rcases h5 with ⟨rfl, h6⟩ | ⟨h6, h7⟩
    · cases hth.symm.trans hc'
      exact Or.inl ⟨va_asg _ _, h6⟩
    · obtain ⟨ca, cb, a1, a2, a3⟩ := hT.2.2.1 _ h6
      cases hth.symm.trans a1
      cases hc'.symm.trans a2
      exact Or.inr ⟨a3, xTab_rows hpl hown hts hT hth t _ ks rfl h7⟩
section XCC
variable {p : Program} {l : Launch} {e : Env} {R : Room} {s : State} {m : MethodId} {args : Array Value} {below : List Frame} {meth : Method} {c : Code} {Q : State → Prop}
variable {cc : ByteArray} {pc : Nat} {ls : Array Slot} {rest st0 : List Value} {D : va_G} {cl : List vw_C} {tys : List (ClassId × FieldType)} {n sz : Nat} {Θ : Nat → Nat} {X : EE} {I : SI} {J : SJ}
variable {y : MethodName} {bytes : ByteArray} {maxL nL k index : Nat} {rt : Option FieldType} {rm : Room} {own : String} {As : List Value} {ret : Option Value → SI → SJ → Prop} {exc : Nat → SI → SJ → Prop}
theorem x_callC {o ci N : Nat} {T0 : u_T} {fs : List Value} {hs : List (Nat × Nat × Nat × Nat)} (ks : List Nat) (C : xC p m c cc nL s args own D cl tys n Θ sz) (hT : TG s) (hsz : s.heap.size = sz) (htb : c.exceptionTable.toList.map (fun h => (h.startPc, h.endPc, h.handlerPc, h.catchType)) = hs) (hP : va_P D cl (xw n Θ X I J) s.heap) (ho : o < n) (hE : X o (I o) (J o) = .inr (ci, fs)) (hc : cl[ci]? = some (y.cls, T0, N)) (hM : MetX l y WS rm (va_Pc (.ref (Θ o) :: As) (xPX D cl tys n Θ X sz I J)) (xQx D cl n Θ X sz ret exc)) (q : xCal y bytes maxL rt k) (hin : Cond.instanceMethod y ∈ WS) (hse : Cond.selects y.cls y y ∈ WS) (hl : Cond.methodLink own index y ∈ WS) (hrc : rm.cells ≤ R.cells) (hrs : rm.slots ≤ R.slots) (hR : rm.frames + 1 ≤ R.frames ∧ 8 + (maxL + 11) + rm.locals ≤ R.locals)
    (hn : As.length = k) (hsize : ls.size = nL) (hstack : st0 = As.reverse ++ .ref (Θ o) :: rest) (hW : (rest.map fun v => v.category).sum ≤ 8) (hdg : decode cc pc = .ok (.invokevirtual index, 3))
    (k1 : ∀ (v : Option Value) (I1 : SI) (J1 : SJ), ret v I1 J1 → ∀ (H1 : Heap) (locs1 : List Loc), va_P D cl (xw n Θ X I1 J1) H1 → va_S (xA n Θ sz) s.heap H1 locs1 → W p l e R s m args below meth c H1 locs1 0 0 Q (F0 m (pc + 3) ls (v.toList ++ rest)))
    (k2 : ∀ (i : Nat) (I1 : SI) (J1 : SJ), exc i I1 J1 → ∀ (a : Nat) (H1 : Heap) (locs1 : List Loc), va_P D cl (xw n Θ X I1 J1) H1 → va_S (xA n Θ sz) s.heap H1 locs1 → ∃ hpc, xTab own pc i hpc hs ks ∧ W p l e R s m args below meth c H1 locs1 1 6 Q (F0 m hpc ls [.ref a])) : W p l e R s m args below meth c s.heap [] 0 0 Q (F0 m pc ls st0) := by
  intro T hTh Y
  have hts := C.1.2.2.2.2
  obtain ⟨q1, q2, q3, q4, q5⟩ := q
  have hcode := hts _ q1
  obtain ⟨cellB, hcB, hoB, hclB⟩ := va_recv C.2.1 hP hc (xw_at ho hE)
  obtain ⟨mk, methM, hnamed, hmethM, hstM, habM⟩ := Cond.instanceMethod_spec (hts _ hin)
  obtain ⟨methM', cM, hmethM', -, -, -, -, -, -, hsigM⟩ := Cond.code_spec hnamed hcode
  cases hmethM.symm.trans hmethM'
  obtain ⟨c2, r2, m2, g1, g2, g3, g4, kP, hkP, hkPi⟩ := Cond.selects_spec (hts _ hse)
  cases hclB.symm.trans g1
  cases (State.methodFound?_of_named hnamed ⟨q3, q4⟩).symm.trans g2
  cases hnamed.symm.trans g3
  have hselP : selectMethod e.platform s.vm cellB.cls mk = .method mk := by rw [Launch.admits_selectMethod Y.admits]; exact g4
  have hlen : As.length = methM.sig.parameters.length := by
    rw [hsigM] at q5
    exact hn.trans (Option.some.inj q5).symm
  obtain ⟨vm₁, Y₁, hstep₁⟩ := Y.invokevirtual C.1.1 C.1.2.2.2.1 (hts _ hl) hnamed hmethM hstM hkP hkPi ⟨q3, q4⟩ (a := Θ o) (cell := cellB) (by rw [hTh]; exact hcB)
    (fun z h => by rw [h] at hoB; cases hoB) hselP hmethM habM hkP hkPi (g := F0 m pc ls st0) rfl (argsL := As) (rest := rest) hlen hstack (by rw [C.1.2.1]; exact hdg)
  have hws := pay_in hts WS_good
  obtain ⟨oc, t, L, mc, ms, hQ, Y₂, hret, hthr⟩ := xBack (bytes := bytes) (maxL := maxL) (ret := rt) (W0 := 8) (len := 3) (a := (Value.ref (Θ o) :: As).toArray) (ig := .invokevirtual index) hM hR.1 hR.2 Y₁ (g := { F0 m pc ls st0 with stack := rest }) rfl (hsize.trans C.1.2.2.1.symm) (by rw [C.1.2.1]; exact hdg) (lv_room hW) (Y₁.named hnamed) (atoms_intro fun w hw => hws w hw _ _ Y₁.warmed) (hws _ q1 _ _ Y₁.warmed) (word_at Y₁.warmed (Or.inl (by first | rfl | simp [Cond.onTables, Cond.keeps, Cond.steady])) (hts _ q2)) (by omega) (by omega)
    (xPX_blind _ _ _ _ (xPX_at hsz hP C.2.1 C.2.2.1 C.2.2.2.1 hT (T.setVm vm₁) hTh Y₁.warmed))
  obtain ⟨hL, hcase, hz, hkp⟩ := hQ
  have hz' : s.heap.size ≤ t.heap.size := by rw [← hTh]; exact hz
  have hS1 : va_S (xA n Θ sz) s.heap t.heap ([] ++ L) := ⟨hz', fun q h1 h2 => (hkp q (by show q < T.heap.size; rw [hTh]; exact h1) h2).trans (by show T.heap[q]? = _; rw [hTh]), by simpa using hL⟩
  rcases hcase with ⟨rfl, rfl, v, I1, J1, rfl, hr, hP1⟩ | ⟨hk1, hc1, a, i, I1, J1, rfl, hx, hP1, ce, u1, u2, u3⟩
  · obtain ⟨t2, a1, b1⟩ := k1 v I1 J1 hr t.heap ([] ++ L) hP1 hS1 (({ T.setVm vm₁ with heap := t.heap, slotsUsed := t.slotsUsed } : State).setVm t.vm) rfl Y₂
    exact ⟨t2, hstep₁ _ fun acts => by rw [doInvoke_state]; exact (hret v rfl).trans a1, b1⟩
  · obtain ⟨hpc, htab, hk⟩ := k2 i I1 J1 hx a t.heap ([] ++ L) hP1 hS1
    have hpl : e.platform.magicAccessors = ({} : Platform).magicAccessors := by rw [Y.admits.platform]
    have hal : s.vm.Alike t.vm := Y₂.warmed.alike
    have hth : s.vm.findClass (xcl i) = some ce.cls := by rw [← hal.findClass]; exact u2
    have hrows := xTab_rows hpl C.1.2.2.2.1 hts hT hth c.exceptionTable.toList hs ks htb htab
    obtain ⟨vm', Y₃, st3⟩ := x_caught Y₂ a (g := { F0 m pc ls st0 with stack := rest }) rfl (cell := ce) u1 u3 (Vm.classAt_of_findClass hth) (hpc := hpc) hrows
    obtain ⟨t2, a1, b1⟩ := hk ((({ T.setVm vm₁ with heap := t.heap, slotsUsed := t.slotsUsed } : State).setVm t.vm).setVm vm') rfl (stand_widen Y₃ (by omega) (by omega))
    exact ⟨t2, hstep₁ _ fun acts => by rw [doInvoke_state]; exact (hthr a rfl).trans (st3 _ a1), b1⟩
end XCC
