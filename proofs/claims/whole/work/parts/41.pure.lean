/-! methods that change nothing; what throwing needs; the throw itself -/
def xQp (post : Int32 → Prop) : Array Value → State → Outcome → State → Prop := fun _ st oc t => ∃ r : Int32, oc = .returned (some (.int r)) ∧ post r ∧ t.heap = st.heap
section XP
variable {p : Program} {l : Launch} {e : Env} {R : Room} {s : State} {m : MethodId} {args : Array Value} {below : List Frame} {meth : Method} {c : Code} {H : Heap} {locs : List Loc} {Q : State → Prop}
variable {cc : ByteArray} {pc : Nat} {ls : Array Slot} {rest st0 : List Value} {D : va_G} {cl : List vw_C} {tys : List (ClassId × FieldType)} {n sz : Nat} {Θ : Nat → Nat} {X : EE} {I : SI} {J : SJ}
variable {y : MethodName} {bytes : ByteArray} {maxL nL k index : Nat} {ret : Option FieldType} {rm : Room} {Qc : Array Value → State → Outcome → State → Prop} {own : String} {As : List Value} {free : Addr → Prop}
theorem x_SF (C : xC p m c cc nL s args own D cl tys n Θ sz) (hP : va_P D cl (xw n Θ X I J) H) (hS : va_S (xA n Θ sz) s.heap H locs) (hM : Met l y WS rm (va_Pc As (xPR D cl tys n Θ X sz I J)) Qc 0 0 free) (q : xCal y bytes maxL ret k) (hst : Cond.static y ∈ WS) (hl : Cond.methodLink own index y ∈ WS) (hrc : rm.cells = 0) (hrs : rm.slots = 0) (hR : rm.frames + 1 ≤ R.frames ∧ 8 + (maxL + 11) + rm.locals ≤ R.locals)
    (hn : As.length = k) (hsize : ls.size = nL) (hstack : st0 = As.reverse ++ rest) (hW : (rest.map fun v => v.category).sum ≤ 8) (hdg : decode cc pc = .ok (.invokestatic index, 3)) : va_Run p l e R s m args below meth c H locs 0 0 0 0 (F0 m pc ls st0) rest (Qc As.toArray) free :=
  va_runS C.1 hM ⟨xCB C.1.2.2.2.2 q hrc hrs hR hl, C.1.2.2.2.2 _ hst⟩ ⟨xPR_blind, xPR_at C.2.2.2.2 hP C.2.1 C.2.2.1 C.2.2.2.1 hS⟩ rfl hn hsize hstack (lv_room hW) hdg ⟨Nat.zero_le _, Nat.zero_le _⟩
theorem x_VF {o ci N : Nat} {T : u_T} {fs : List Value} (C : xC p m c cc nL s args own D cl tys n Θ sz) (hP : va_P D cl (xw n Θ X I J) H) (hS : va_S (xA n Θ sz) s.heap H locs) (ho : o < n) (hE : X o (I o) (J o) = .inr (ci, fs)) (hc : cl[ci]? = some (y.cls, T, N)) (hM : Met l y WS rm (va_Pc (.ref (Θ o) :: As) (xPR D cl tys n Θ X sz I J)) Qc 0 0 free) (q : xCal y bytes maxL ret k) (hin : Cond.instanceMethod y ∈ WS) (hse : Cond.selects y.cls y y ∈ WS) (hl : Cond.methodLink own index y ∈ WS) (hrc : rm.cells = 0) (hrs : rm.slots = 0) (hR : rm.frames + 1 ≤ R.frames ∧ 8 + (maxL + 11) + rm.locals ≤ R.locals)
    (hn : As.length = k) (hsize : ls.size = nL) (hstack : st0 = As.reverse ++ .ref (Θ o) :: rest) (hW : (rest.map fun v => v.category).sum ≤ 8) (hdg : decode cc pc = .ok (.invokevirtual index, 3)) : va_Run p l e R s m args below meth c H locs 0 0 0 0 (F0 m pc ls st0) rest (Qc (Value.ref (Θ o) :: As).toArray) free :=
  va_runV C.1 hM ⟨xCB C.1.2.2.2.2 q hrc hrs hR hl, C.1.2.2.2.2 _ hin, C.1.2.2.2.2 _ hse⟩ ⟨xPR_blind, va_recv C.2.1 hP hc (xw_at ho hE), xPR_at C.2.2.2.2 hP C.2.1 C.2.2.1 C.2.2.2.1 hS⟩ rfl hn hsize hstack (lv_room hW) hdg ⟨Nat.zero_le _, Nat.zero_le _⟩
theorem x_gp {a : Array Value} {post : Int32 → Prop} (hr : va_Run p l e R s m args below meth c H locs 0 0 0 0 (F0 m pc ls st0) rest (xQp post a) (fun _ => False))
    (kk : ∀ r : Int32, post r → W p l e R s m args below meth c H locs 0 0 Q (F0 m (pc + 3) ls (.int r :: rest))) : W p l e R s m args below meth c H locs 0 0 Q (F0 m pc ls st0) := by
  intro T hT Y
  obtain ⟨v, st₀, t, T', L, h0, Y', hL, e1, -, ⟨r, hv, hp, hh⟩, st⟩ := hr T hT Y
  cases hv
  obtain ⟨t2, a1, b1⟩ := kk r hp T' (by rw [e1, hh, h0]) (Stand.forget Y' (fun q h => (hL q h).elim))
  exact ⟨t2, st t2 a1, b1⟩
theorem x_pret {v : Int32} {post : Int32 → Prop} (hx : p.tables.exec = Jvm.exec) (hb : c.code = cc) (hr : meth.sig.returnType = some .int) (hlocks : meth.locks = false) (h : post v) (hdg : decode cc pc = .ok (.ireturn, 1)) : W p l e R s m args below meth c s.heap [] 0 0 (MQ below (xQp post) args s 0 0 (fun _ => False)) (F0 m pc ls [.int v]) :=
  W.iret (v := v) hx hb hr (fun t ht hW => ⟨v, rfl, h, ht⟩) (fun q hq => by cases hq) hdg hlocks
theorem x_pzret {v : Int32} {post : Int32 → Prop} (hx : p.tables.exec = Jvm.exec) (hb : c.code = cc) (hr : meth.sig.returnType = some .boolean) (hlocks : meth.locks = false) (hv : v = 0 ∨ v = 1) (h : post v) (hdg : decode cc pc = .ok (.ireturn, 1)) : W p l e R s m args below meth c s.heap [] 0 0 (MQ below (xQp post) args s 0 0 (fun _ => False)) (F0 m pc ls [.int v]) :=
  W.zret (v := v) hx hb hr (by rcases hv with rfl | rfl <;> rfl) (fun t ht hW => ⟨v, rfl, h, ht⟩) (fun q hq => by cases hq) hdg hlocks
end XP
def FW : List Cond := lw_tbl.filter (fun w => w.onTables && w.keepsFace)
def strs : List (Nat × String) := [(178, "there is none such"), (185, "it is off or has a message"), (94, "it presses for a group"), (113, "a draw is 0 to 15"), (120, "it has 8 draws"), (125, "n is not 0 to 200, or the time would be too late")]
/-- the three exceptions: 1, 2, 3 -/
def xcl (k : Nat) : String := if k = 1 then "java/lang/IndexOutOfBoundsException" else if k = 2 then "java/lang/IllegalStateException" else "java/lang/IllegalArgumentException"
def noC : List (String × String) := [(xcl 2, xcl 1), (xcl 3, xcl 1), (xcl 2, xcl 3)]
def lsU : Cond := .laysStatic "java/lang/Throwable" "UNASSIGNED_STACK" "[Ljava/lang/StackTraceElement;"
def lsS : Cond := .laysStatic "java/lang/Throwable" "SUPPRESSED_SENTINEL" "Ljava/util/List;"
def TG (U : State) : Prop := (∀ w ∈ FW, va_Nw w U) ∧ (∀ k ∈ strs, ∃ q, vk_R "TrunkCells" k.1 k.2 q U) ∧ (∀ r ∈ noC, ∃ ca cb, U.vm.findClass r.1 = some ca ∧ U.vm.findClass r.2 = some cb ∧ U.vm.assignable ca cb = false) ∧ va_Nw lsU U ∧ va_Nw lsS U
theorem xff {u U : State} (hvm : U.vm = u.vm) (C n d : String) : U.fieldFound? C n d = u.fieldFound? C n d := by
  simp only [State.fieldFound?, hvm]
theorem xls {C n d : String} {A : Nat → Prop} {u U : State} (hvm : U.vm = u.vm) (hz : va_Zq C n d A u u.heap) (hk : ∀ a : Nat, a < u.heap.size → ¬ A a → U.heap[a]? = u.heap[a]?) (h : va_Nw (.laysStatic C n d) u) : va_Nw (.laysStatic C n d) U := by
  have hz' : ∃ (cf : ClassId) (kf : Class) (fi : Nat) (f : Field) (a : Nat), u.fieldFound? C n d = some (cf, kf, fi, f) ∧ kf.statics = some a ∧ U.heap[a]? = u.heap[a]? := by
    rcases hz with hz | ⟨t, hz⟩
    · obtain ⟨cf, kf, fi, f, a, cell, h1, h2, h3, h4, h5, h6, h7, h8⟩ := hz
      exact ⟨cf, kf, fi, f, a, h1, h4, hk a (Array.getElem?_eq_some_iff.mp h5).1 h8⟩
    · obtain ⟨cf, kf, fi, f, a, cell, h1, h2, h3, h4, h5, h6, h7, h8⟩ := hz
      exact ⟨cf, kf, fi, f, a, h1, h4, hk a (Array.getElem?_eq_some_iff.mp h5).1 h8⟩
  obtain ⟨cf, kf, fi, f, a, h1, h4, h9⟩ := hz'
  have h0 : (Cond.laysStatic C n d).before #[] u = true := h
  show (Cond.laysStatic C n d).before #[] U = true
  simp only [Cond.before, Cond.holds, Cond.value, xff hvm, hvm, h1] at h0 ⊢
  cases hf : u.vm.findClass C with
  | none =>
    rw [hf] at h0
    cases h0
  | some c =>
    rw [hf] at h0
    simp only [h4, Option.bind_some, h9] at h0 ⊢
    exact h0
theorem TG.go {A : Nat → Prop} {s U : State} (hW : s.WarmedH U.vm) (hG : SG A s) (hk : ∀ a : Nat, a < s.heap.size → ¬ A a → U.heap[a]? = s.heap[a]?) (h : TG s) : TG U := by
  have hG' : SG A (s.setVm U.vm) := hG.go (U := s.setVm U.vm) hW.alike (fun _ _ _ => rfl)
  refine ⟨fun w hw => ?_, fun k hk' => ?_, fun r hr => ?_, ?_, ?_⟩
  · have h1 := (List.mem_filter.mp hw).2
    rw [Bool.and_eq_true] at h1
    have h2 := Cond.before_shiftedFace (args := #[]) (State.Shifted.of_warmed hW) w h1.2 (h.1 w hw)
    exact va_tabs h1.1 (rfl : (s.setVm U.vm).vm = U.vm) h2
  · obtain ⟨q, hq⟩ := h.2.1 k hk'
    exact ⟨q, hq.warm hW⟩
  · obtain ⟨ca, cb, a, b, c⟩ := h.2.2.1 r hr
    exact ⟨ca, cb, by rw [hW.alike.findClass]; exact a, by rw [hW.alike.findClass]; exact b, by rw [hW.alike.assignable]; exact c⟩
  · exact xls (u := s.setVm U.vm) rfl hG'.2.1 hk (Cond.before_shiftedFace (args := #[]) (State.Shifted.of_warmed hW) lsU rfl h.2.2.2.1)
  · exact xls (u := s.setVm U.vm) rfl hG'.2.2 hk (Cond.before_shiftedFace (args := #[]) (State.Shifted.of_warmed hW) lsS rfl h.2.2.2.2)
theorem TG.same {u U : State} (hvm : U.vm = u.vm) (hh : U.heap = u.heap) (h : TG u) : TG U := by
  refine ⟨fun w hw => ?_, fun k hk => ?_, fun r hr => ?_, ?_, ?_⟩
  · have h1 := (List.mem_filter.mp hw).2
    rw [Bool.and_eq_true] at h1
    exact va_tabs h1.1 hvm.symm (h.1 w hw)
  · obtain ⟨q, hq⟩ := h.2.1 k hk
    exact ⟨q, hq.same hvm⟩
  · rw [hvm]
    exact h.2.2.1 r hr
  · have h0 : lsU.before #[] u = true := h.2.2.2.1
    show lsU.before #[] U = true
    simp only [lsU, Cond.before, Cond.holds, Cond.value, xff hvm, hvm, hh] at h0 ⊢
    exact h0
  · have h0 : lsS.before #[] u = true := h.2.2.2.2
    show lsS.before #[] U = true
    simp only [lsS, Cond.before, Cond.holds, Cond.value, xff hvm, hvm, hh] at h0 ⊢
    exact h0
theorem zq_isRef {C n d : String} {A : Nat → Prop} {args : Array Value} {s : State} (h : va_Zq C n d A s s.heap) : (Cond.isRef (.static C n d)).before args s = true := by
  rcases h with h | ⟨t, h⟩
  · obtain ⟨cf, kf, fi, f, a, cell, h1, h2, h3, h4, h5, h6, h7, h8⟩ := h
    simp [Cond.before, Cond.holds, Cond.value, Term.eval, State.fieldNamed?, h1, h2, h4, h5, h6, h7]
  · obtain ⟨cf, kf, fi, f, a, cell, h1, h2, h3, h4, h5, h6, h7, h8⟩ := h
    simp [Cond.before, Cond.holds, Cond.value, Term.eval, State.fieldNamed?, h1, h2, h4, h5, h6, h7]
def xOwn (ic k : Nat) : Prop := ∀ a ∈ Bundle.ownAtoms "TrunkCells" ic (xcl k) ["java/lang/RuntimeException", "java/lang/Exception"], a ∈ FW ∨ a = .isRef (.static "java/lang/Throwable" "UNASSIGNED_STACK" "[Ljava/lang/StackTraceElement;") ∨ a = .isRef (.static "java/lang/Throwable" "SUPPRESSED_SENTINEL" "Ljava/util/List;") ∨ a = lsU ∨ a = lsS
theorem xOwn_1 : xOwn 180 1 := by unfold xOwn; decide +kernel
theorem xOwn_2 : xOwn 96 2 := by unfold xOwn; decide +kernel
theorem xOwn_3 : xOwn 115 3 := by unfold xOwn; decide +kernel
theorem xOwn_at {ic k : Nat} {A : Nat → Prop} {args : Array Value} {s : State} (ho : xOwn ic k) (hT : TG s) (hG : SG A s) : ∀ a ∈ Bundle.ownAtoms "TrunkCells" ic (xcl k) ["java/lang/RuntimeException", "java/lang/Exception"], a.before args s = true := by
  intro a ha
  rcases ho a ha with h | rfl | rfl | rfl | rfl
  · have h1 := (List.mem_filter.mp h).2
    rw [Bool.and_eq_true] at h1
    exact va_Nw.use h1.1 (hT.1 a h)
  · exact zq_isRef hG.2.1
  · exact zq_isRef hG.2.2
  · have h1 : lsU.before #[] s = true := hT.2.2.2.1
    simp only [lsU, Cond.before, Cond.holds, Cond.value] at h1 ⊢
    exact h1
  · have h1 : lsS.before #[] s = true := hT.2.2.2.2
    simp only [lsS, Cond.before, Cond.holds, Cond.value] at h1 ⊢
    exact h1
/-- the thrown object is of the k-th of the three -/
def xEx (k a : Nat) (t : State) : Prop := ∃ ce : Cell, t.heap[a]? = some ce ∧ t.vm.findClass (xcl k) = some ce.cls ∧ ce.vm.isStatics = false
def xQx (D : va_G) (cl : List vw_C) (n : Nat) (Θ : Nat → Nat) (X : EE) (sz : Nat) (ret : Option Value → SI → SJ → Prop) (exc : Nat → SI → SJ → Prop) : Array Value → State → Outcome → State → List Loc → Nat → Nat → Prop := fun _ st oc t L k c => (∀ q ∈ L, xA n Θ sz q.base) ∧ ((k = 0 ∧ c = 0 ∧ ∃ (v : Option Value) (I : SI) (J : SJ), oc = .returned v ∧ ret v I J ∧ va_P D cl (xw n Θ X I J) t.heap) ∨ (k ≤ 1 ∧ c ≤ 6 ∧ ∃ (a i : Nat) (I : SI) (J : SJ), oc = .threw a ∧ exc i I J ∧ va_P D cl (xw n Θ X I J) t.heap ∧ xEx i a t)) ∧ va_F (xA n Θ sz) st t
section XTH
variable {p : Program} {l : Launch} {e : Env} {R : Room} {s : State} {m : MethodId} {args : Array Value} {below : List Frame} {meth : Method} {c : Code}
variable {cc : ByteArray} {pc nL : Nat} {ls : Array Slot} {rest : List Value} {D : va_G} {cl : List vw_C} {tys : List (ClassId × FieldType)} {n sz : Nat} {Θ : Nat → Nat} {X : EE} {I : SI} {J : SJ} {ret : Option Value → SI → SJ → Prop} {exc : Nat → SI → SJ → Prop}
theorem x_throw {Qc : Array Value → State → Outcome → State → List Loc → Nat → Nat → Prop} (hfl : l.flags = pinnedFlags ++ [noTraceFlag]) (C : xC p m c cc nL s args "TrunkCells" D cl tys n Θ sz) (hT : TG s) (hno : c.exceptionTable.toList = []) (hlocks : meth.locks = false) (k : Nat) {ic i0 i1 : Nat} {tx : String} (ho : xOwn ic k) (hfit : Bundle.fit (xcl k) = true) (hcl : Cond.classLink "TrunkCells" i0 (xcl k) ∈ WS) (hins : Cond.instantiable (xcl k) 6 ∈ WS) (hini : Cond.initialized (xcl k) ∈ WS) (hstr : (i1, tx) ∈ strs) (hsize : ls.size = nL)
    (d0 : decode cc pc = .ok (.new i0, 3)) (d3 : decode cc (pc + 3) = .ok (.dup, 1)) (d4 : decode cc (pc + 3 + 1) = .ok (.ldc i1, 2)) (d6 : decode cc (pc + 3 + 1 + 2) = .ok (.invokespecial ic, 3)) (d9 : decode cc (pc + 3 + 1 + 2 + 3) = .ok (.athrow, 1)) (hRc : 1 ≤ R.cells) (hRs : 6 ≤ R.slots) (hRf : 5 < R.frames) (hRl : (rest.map fun v => v.category).sum + 82 ≤ R.locals) (hQ : ∀ t : State, s.WarmedH t.vm → s.heap.size ≤ t.heap.size → (∀ q : Nat, q < s.heap.size → t.heap[q]? = s.heap[q]?) → xEx k s.heap.size t → Qc args s (.threw s.heap.size) t [] 1 6) :
    W p l e R s m args below meth c s.heap [] 0 0 (MQX below Qc args s) (F0 m pc ls rest) := by
  obtain ⟨q, hq⟩ := hT.2.1 _ hstr
  have hts := C.1.2.2.2.2
  refine W.newc (n := 6) C.1.1 C.1.2.1 C.1.2.2.2.1 (hts _ hcl) (hts _ hins) (hts _ hini) (g := F0 m pc ls rest) rfl d0 (by omega) (by omega) (fun cC kC h1 h2 h3 h4 => ?_)
  refine lv_dup C.1.1 C.1.2.1 d3 rfl ?_
  refine va_ldcS C.1.1 C.1.2.1 C.1.2.2.2.1 hq d4 ?_
  intro T hT' Y
  obtain ⟨U, st, u1, u2, u3, u4, ce, u5, u6⟩ := Y.ctorThrowS C.1.1 (Launch.traces_off hfl Y.admits) C.1.2.2.2.1 hfit (by decide) (xOwn_at ho hT C.2.2.2.1) (fun x hx => by cases hx) h1 h2 (a := s.heap.size) (by rw [hT']; simp) (Nat.le_refl _) (msg := .ref q) rfl (g := F0 m (pc + 3 + 1 + 2) ls (.ref q :: .ref s.heap.size :: .ref s.heap.size :: rest)) rfl (hsize.trans C.1.2.2.1.symm) rfl rfl rfl (by rw [C.1.2.1]; exact d6) (by rw [C.1.2.1]; exact d9) (by rw [hno]; intro x hx; cases hx) (by show 2 + 3 < R.frames; omega) (by show 2 * 0 + (1 + (rest.map fun v => v.category).sum) + (13 * (2 + 1) + 42) ≤ R.locals; omega) hlocks
  have hkeep : ∀ q : Nat, q < s.heap.size → U.heap[q]? = s.heap[q]? := by
    intro q hq'
    obtain ⟨c0, hc0⟩ : ∃ c0, s.heap[q]? = some c0 := ⟨_, Array.getElem?_eq_getElem hq'⟩
    obtain ⟨c', k1, k2, k3, k4⟩ := u4.2.2.2.2.2 q c0 hc0
    have k5 : c'.slots = c0.slots := Array.ext_getElem? (fun i => k4 i (by intro z; cases z))
    have k6 : c' = c0 := by rw [k2, k5]
    rw [hc0, ← k6]
    exact k1
  refine ⟨U, st, .threw s.heap.size, u1, u2, [], 1, 6, ⟨u3, u4⟩, hQ U u3 u4.2.1 hkeep ⟨ce, u5, ?_, ?_⟩⟩
  · rw [u3.alike.findClass]
    exact u6.cls
  · rw [u6.vm]
    rfl
end XTH
