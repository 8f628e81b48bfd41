/-! a throw that the caller's own table catches, its catch types linked or yet to be -/
def xRows (s0 : State) (pl : Platform) (d : ClassId) (pc : Nat) (th : ClassId) (hpc : Nat) : List ExceptionTableEntry → Prop
  | [] => False
  | x :: t => covers x pc = true ∧ x.catchType ≠ 0 ∧ ∃ c : ClassId, s0.vm.ClassLinks pl d x.catchType c ∧ ((s0.vm.assignable th c = true ∧ hpc = x.handlerPc) ∨ (s0.vm.assignable th c = false ∧ xRows s0 pl d pc th hpc t))
theorem xgo {e : Env} {s0 : State} {f : JFrame} {a : Addr} {cell : Cell} {hpc : Nat} (hobj : ∀ k, cell.vm ≠ .statics k) (hk0 : ∃ k, s0.vm.classes[cell.cls]? = some k) :
    ∀ (tb : List ExceptionTableEntry) (S : State), s0.WarmedH S.vm → S.heap[a]? = some cell → xRows s0 e.platform f.method.cls f.pc cell.cls hpc tb →
      ∃ vm', s0.WarmedH vm' ∧ ∀ (Q : Handler → Pre) (E : CtlPost) (d : Bool) (acts : List Action), wp (findHandler.go f a tb) Q E e d acts S ↔ Q (.found hpc) d acts (S.setVm vm') := by
  obtain ⟨k0, hk0⟩ := hk0
  intro tb
  induction tb with
  | nil => intro S _ _ h; exact h.elim
  | cons x t ih =>
    intro S hW hcell h
    obtain ⟨hx, h0, c, hl, h⟩ := h
    obtain ⟨k1, hk1, -⟩ := hW.alike.2.2 _ _ hk0
    obtain ⟨dk, _, _, kt, hd, _, _, _, _, hkt, _, hopen⟩ := hl.here
    obtain ⟨k2, hk2, -⟩ := hW.alike.2.2 _ _ hkt
    have hlS := hW.classLinks hl
    have hx' := hx
    simp only [covers] at hx'
    obtain ⟨ha, ht⟩ := (resolveClass_links e.toSetting hlS).op (op := VmOp.resolveClass f.method.cls x.catchType) rfl
    have hal : S.vm.Alike (S.vm.noted f.method.cls x.catchType (.cls c)) := (Vm.Alike.refl S.vm).noted _ _ _
    obtain ⟨k1', hk1', -⟩ := hal.2.2 _ _ hk1
    obtain ⟨k2', hk2', -⟩ := hal.2.2 _ _ hk2
    have hW' : s0.WarmedH (S.vm.noted f.method.cls x.catchType (.cls c)) := hW.noted hd hopen (State.rightAt_cls hl)
    rcases h with ⟨hf, rfl⟩ | ⟨hf, hr⟩
    · have hf' : (S.vm.noted f.method.cls x.catchType (.cls c)).assignable cell.cls c = true := by rw [hal.assignable, hW.alike.assignable]; exact hf
      exact ⟨_, hW', fun Q E d acts => by simp [findHandler.go, hx', h0, ha, ht, hcell, hobj, hk1', hk2', hf', VmOp.dirties, VmOp.acts]⟩
    · have hf' : (S.vm.noted f.method.cls x.catchType (.cls c)).assignable cell.cls c = false := by rw [hal.assignable, hW.alike.assignable]; exact hf
      obtain ⟨vm', hWv, hq⟩ := ih (S.setVm (S.vm.noted f.method.cls x.catchType (.cls c))) hW' hcell hr
      refine ⟨vm', hWv, fun Q E d acts => ?_⟩
      have h1 : wp (findHandler.go f a (x :: t)) Q E e d acts S ↔ wp (findHandler.go f a t) Q E e d acts (S.setVm (S.vm.noted f.method.cls x.catchType (.cls c))) := by
        simp [findHandler.go, hx', h0, ha, ht, hcell, hobj, hk1', hk2', hf', VmOp.dirties, VmOp.acts]
      exact h1.trans (hq Q E d acts)
theorem xstep {e : Env} {s : State} {a : Addr} {f : JFrame} {r : List Frame} {pc : Nat} {vm' : Vm} (hfind : ∀ (Q : Handler → Pre) (E : CtlPost) (d : Bool) (acts : List Action), wp (findHandler f a) Q E e d acts s ↔ Q (.found pc) d acts (s.setVm vm')) :
    (stepThrowing e s a (.java f :: r)).Is ((s.setVm vm').setFrames (.java { f with pc := pc, stack := [.ref a] } :: r)) [] := by
  simp only [stepThrowing, searchFrame, vmDo]
  generalize hr : Sem.go _ e false [] s = res
  obtain ⟨as, rfl, ha⟩ := Sem.eq_ok_of hr (a := Handler.found pc) (s' := s.setVm vm') (acts' := []) (by simp [hfind _ _ _ _])
  exact ⟨rfl, ha⟩
section XCA
variable {p : Program} {l : Launch} {e : Env} {R : Room} {s : State} {m : MethodId} {args : Array Value} {below : List Frame} {meth : Method} {c : Code} {T : State} {locs : List Loc} {cells slots : Nat}
theorem x_caught (X : Stand p l e R s m args below meth c T locs cells slots) (a : Addr) {g : JFrame} (hg : g.method = m) {cell : Cell} (hcell : T.heap[a]? = some cell) (hobj : cell.vm.isStatics = false) (hk0 : ∃ k, s.vm.classes[cell.cls]? = some k) {hpc : Nat} (hr : xRows s e.platform m.cls g.pc cell.cls hpc c.exceptionTable.toList) :
    ∃ vm', Stand p l e R s m args below meth c (T.setVm vm') locs cells slots ∧ ∀ target, Steps p.tables e below ((T.setVm vm').setTop { g with pc := hpc, stack := [.ref a] }) target → Steps p.tables e below ((T.setTop g).pushFrame (.throwing a)) target := by
  subst hg
  obtain ⟨vm', hW', hq⟩ := xgo (e := e) (s0 := s) (f := g) (a := a) (cell := cell) (hpc := hpc) (VmData.ne_statics_of hobj) hk0 c.exceptionTable.toList ((T.setTop g).pushFrame (.throwing a)) X.warmed hcell hr
  refine ⟨vm', X.noted hW', fun target hrest => ?_⟩
  have h := X.here
  obtain ⟨hgo, hw⟩ := h.throwing a
  refine Steps.head hgo hw ?_
  have hm : ((T.setTop g).pushFrame (.throwing a)).vm.method? g.method = some meth := X.method'
  rw [stepThread_throwing (frames_entered h.top _), (xstep (s := (T.setTop g).pushFrame (.throwing a)) (fun Q E d acts => by rw [Jvm.W.findHandler_eq hm X.code]; exact hq Q E d acts)).1]
  obtain ⟨g₀, hg⟩ := Option.isSome_iff_exists.mp h.top
  obtain ⟨r, hr⟩ := State.topJava?_eq_some.mp hg
  have hr' : (T.setVm vm').frames = .java g₀ :: r := hr
  have key : ∀ (u : State) (F G : List Frame), ((u.setFrames F).setVm vm').setFrames G = (u.setVm vm').setFrames G := by
    intro u F G
    have h1 : (u.setFrames F).setVm vm' = (u.setVm vm').setFrames F := rfl
    rw [h1, State.setFrames_setFrames]
  rw [State.setTop_of_frames _ hr'] at hrest
  rw [hr, List.tail_cons, State.pushFrame, key, State.setTop_of_frames _ hr, key]
  exact hrest
end XCA
