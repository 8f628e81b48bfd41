/-! shifts and the rest, by short names -/
def xsl (x y : Int32) : Int32 := x <<< (y &&& 31)
def xsr (x y : Int32) : Int32 := x >>> (y &&& 31)
def xsu (x y : Int32) : Int32 := (x.toUInt32 >>> (y.toUInt32 &&& Int32.toUInt32 31)).toInt32
def xrm (x y : Int32) : Int32 := x - x / y * y
def xll (x : Int64) (y : Int32) : Int64 := x <<< (y.toInt64 &&& 63)
def xlr (x : Int64) (y : Int32) : Int64 := x >>> (y.toInt64 &&& 63)
def xlu (x : Int64) (y : Int32) : Int64 := (x.toUInt64 >>> (y.toInt64.toUInt64 &&& Int64.toUInt64 63)).toInt64
theorem xlt {b i c n : Nat} (hi : i < c) (h : Nat.ble (b + c) n = true) : b + i < n := Nat.lt_of_lt_of_le (Nat.add_lt_add_left hi b) (Nat.le_of_ble_eq_true h)
/-- the words that a call carries on: all of the tables' that stay so -/
def WS : List Cond := lw_tbl.filter goodWord
theorem WS_of {w : Cond} (i : Nat) (h : tables_1[i]? = some w) (hg : goodWord w = true) : w ∈ WS := List.mem_filter.mpr ⟨List.mem_append_right _ (List.mem_of_getElem? h), hg⟩
theorem WS_priv {w : Cond} (h : w ∈ k2_sels lw_privs) (hg : goodWord w = true) : w ∈ WS := List.mem_filter.mpr ⟨List.mem_append_left _ h, hg⟩
theorem WS_good : GoodIn WS WS := fun w h => ⟨h, good_of_word (List.mem_filter.mp h).2⟩
def isNest : Cond → Bool
  | .fieldLinkNest .. => true
  | .methodLinkNest .. => true
  | _ => false
def NW : List Cond := tables_1.filter isNest
theorem NW_of {w : Cond} (i : Nat) (h : tables_1[i]? = some w) (hg : isNest w = true) : w ∈ NW := List.mem_filter.mpr ⟨List.mem_of_getElem? h, hg⟩
def NG (U : State) : Prop := ∀ w ∈ NW, va_Nw w U
theorem NG.warm {s U : State} (hW : s.WarmedH U.vm) (h : NG s) : NG U := by
  intro w hw
  have h1 := h w hw
  have h2 := (List.mem_filter.mp hw).2
  cases w <;> first | exact va_Nw.warmF hW h1 | exact va_Nw.warmM hW h1 | simp [isNest] at h2
theorem NG.same {u U : State} (hvm : u.vm = U.vm) (h : NG u) : NG U := by
  intro w hw
  have h1 := h w hw
  have h2 := (List.mem_filter.mp hw).2
  cases w <;> first | exact va_Nw.same rfl hvm h1 | simp [isNest] at h2
/-- the static table, and Throwable's two statics, as they were at the start -/
def unlL (j : Nat) : Int64 := if j = 0 then 0 else if j = 3 then 2199023255552 else 1099511627776
def unl : Nat → Value := fun j => .long (unlL j)
def SG (A : Nat → Prop) (U : State) : Prop := (∃ t : Nat, va_Z "TrunkCells$Coder" "UNLIKE" "[J" (.ref t) A U U.heap ∧ va_T .long t 4 unl A U U.heap) ∧ va_Zq "java/lang/Throwable" "UNASSIGNED_STACK" "[Ljava/lang/StackTraceElement;" A U U.heap ∧ va_Zq "java/lang/Throwable" "SUPPRESSED_SENTINEL" "Ljava/util/List;" A U U.heap
theorem SG.go {A : Nat → Prop} {s U : State} (hvm : s.vm.Alike U.vm) (hk : ∀ a : Nat, a < s.heap.size → ¬ A a → U.heap[a]? = s.heap[a]?) (h : SG A s) : SG A U := by
  obtain ⟨⟨t, h1, h2⟩, h3, h4⟩ := h
  exact ⟨⟨t, (h1.moved hvm).kept hk, (h2.moved hvm).kept hk⟩, (h3.moved hvm).kept hk, (h4.moved hvm).kept hk⟩
theorem SG.narrow {A B : Nat → Prop} {s : State} (hAB : ∀ q, B q → A q) (h : SG A s) : SG B s := by
  obtain ⟨⟨t, h1, h2⟩, h3, h4⟩ := h
  exact ⟨⟨t, h1.narrow hAB, h2.narrow hAB⟩, h3.narrow hAB, h4.narrow hAB⟩
/-- what a method finds -/
def xPR (D : va_G) (cl : List vw_C) (tys : List (ClassId × FieldType)) (n : Nat) (Θ : Nat → Nat) (X : EE) (sz : Nat) (I : SI) (J : SJ) : State → Prop := fun U => sz ≤ U.heap.size ∧ va_P D cl (xw n Θ X I J) U.heap ∧ va_K D cl tys U ∧ NG U ∧ SG (xA n Θ sz) U
abbrev xQv (D : va_G) (cl : List vw_C) (n : Nat) (Θ : Nat → Nat) (X : EE) (sz : Nat) (post : SI → SJ → Prop) : Array Value → State → Outcome → State → Prop := va_Qv (S := SI × SJ) (fun u => post u.1 u.2) (fun u t => va_P D cl (xw n Θ X u.1 u.2) t.heap) (xA n Θ sz)
abbrev xQi (D : va_G) (cl : List vw_C) (n : Nat) (Θ : Nat → Nat) (X : EE) (sz : Nat) (post : Int32 → SI → SJ → Prop) : Array Value → State → Outcome → State → Prop := va_Qi (S := SI × SJ) (fun r u => post r u.1 u.2) (fun u t => va_P D cl (xw n Θ X u.1 u.2) t.heap) (xA n Θ sz)
abbrev xQl (D : va_G) (cl : List vw_C) (n : Nat) (Θ : Nat → Nat) (X : EE) (sz : Nat) (post : Int64 → SI → SJ → Prop) : Array Value → State → Outcome → State → Prop := va_Ql (S := SI × SJ) (fun r u => post r u.1 u.2) (fun u t => va_P D cl (xw n Θ X u.1 u.2) t.heap) (xA n Θ sz)
theorem xPR_blind {D : va_G} {cl : List vw_C} {tys : List (ClassId × FieldType)} {n : Nat} {Θ : Nat → Nat} {X : EE} {sz : Nat} {I : SI} {J : SJ} {As : List Value} : FrameBlind (va_Pc As (xPR D cl tys n Θ X sz I J)) := by
  intro a U g mk h
  obtain ⟨h0, h1, h2, h3, h4, h5⟩ := h
  exact ⟨h0, h1, h2, va_K.moved (u := U) (U := U.calling g mk a) (Vm.Alike.refl U.vm) h3, NG.same (u := U) rfl h4, SG.go (s := U) (U := U.calling g mk a) (Vm.Alike.refl U.vm) (fun _ _ _ => rfl) h5⟩
theorem xPR_at {D : va_G} {cl : List vw_C} {tys : List (ClassId × FieldType)} {n : Nat} {Θ : Nat → Nat} {X : EE} {sz : Nat} {I : SI} {J : SJ} {As : List Value} {s : State} {H : Heap} {locs : List Loc} (hsz : sz ≤ s.heap.size) (hP : va_P D cl (xw n Θ X I J) H) (hK : va_K D cl tys s) (hN : NG s) (hG : SG (xA n Θ sz) s) (hS : va_S (xA n Θ sz) s.heap H locs) :
    ∀ U : State, U.heap = H → s.WarmedH U.vm → va_Pc As (xPR D cl tys n Θ X sz I J) As.toArray U := by
  intro U hU hW
  subst hU
  exact ⟨rfl, Nat.le_trans hsz hS.1, hP, va_K.moved hW.alike hK, hN.warm hW, hG.go hW.alike (fun a h1 h2 => hS.2.1 a h1 h2)⟩
theorem xMet {l : Launch} {y : MethodName} {ws : List Cond} {rm : Room} {Pc : Array Value → State → Prop} {Qc : Array Value → State → Outcome → State → Prop} {mc ms : Nat} {free : Addr → Prop} {cc : ByteArray} {maxL : Nat} {ret : Option FieldType} (hy : plainName y.cls = true) (hw : Cond.code y cc maxL ret ∈ ws)
    (body : ∀ p e s m args below meth c s₁, BodyLoose p l y (headSpec ws rm) cc maxL ret e s m args below meth c s₁ → c.maxLocals = maxL → Pc args s →
      W p l e (headSpec ws rm).room s m args below meth c s.heap [] 0 0 (MQ below Qc args s mc ms free) (entryFrame m args maxL)) : Met l y ws rm Pc Qc mc ms free := by
  refine MetFree.of_bodyS (code := cc) (maxLocals := maxL) (ret := ret) hy ?_ ?_
  · intro args s m h hn
    obtain ⟨meth, c, h1, h2, h3, h4, h5, h6, -, -⟩ := Cond.code_spec hn (atoms_spec (ws := ws) h _ hw)
    exact ⟨meth, c, h1, h2, h3, h4, h5, h6⟩
  · intro p e s m args below meth c s₁ B hml hP _
    have hh0 : s₁.heap = s.heap := by rw [B.state]; rfl
    obtain ⟨t, a1, o, b1, b2, b3⟩ := body p e s m args below meth c s₁ B hml hP s₁ hh0 (Stand.of_body B)
    exact ⟨t, o, a1, b1, b2, ⟨b3.1, b3.2⟩⟩
/-- what a call must know of its callee -/
def xCal (y : MethodName) (bytes : ByteArray) (maxL : Nat) (ret : Option FieldType) (k : Nat) : Prop := Cond.code y bytes maxL ret ∈ WS ∧ Cond.initialized y.cls ∈ WS ∧ y.cls ≠ "java/lang/invoke/MethodHandle" ∧ y.cls ≠ "java/lang/invoke/VarHandle" ∧ (parseMethodDescriptor y.desc).map (fun d => d.parameters.length) = some k
section XC
variable {p : Program} {l : Launch} {e : Env} {R : Room} {s : State} {m : MethodId} {args : Array Value} {below : List Frame} {meth : Method} {c : Code} {H : Heap} {locs : List Loc} {Q : State → Prop}
variable {cc : ByteArray} {pc : Nat} {ls : Array Slot} {rest st0 : List Value} {D : va_G} {cl : List vw_C} {tys : List (ClassId × FieldType)} {n sz : Nat} {Θ : Nat → Nat} {X : EE} {I : SI} {J : SJ}
variable {y : MethodName} {bytes : ByteArray} {maxL nL k index : Nat} {ret : Option FieldType} {rm : Room} {Qc : Array Value → State → Outcome → State → Prop} {own : String} {As : List Value}
theorem xCB (hts : ∀ w ∈ WS, w.before args s = true) (q : xCal y bytes maxL ret k) (hrc : rm.cells = 0) (hrs : rm.slots = 0) (hR : rm.frames + 1 ≤ R.frames ∧ 8 + (maxL + 11) + rm.locals ≤ R.locals) (hl : Cond.methodLink own index y ∈ WS) : CallB R s args own index y bytes maxL ret WS rm 0 0 k := by
  obtain ⟨h1, h2, h3, h4, h5⟩ := q
  refine ⟨hrc, hrs, hR.1, hR.2, pay_in hts WS_good, h1, hts _ h1, hts _ h2, ⟨h3, h4⟩, fun sig h => ?_, hts _ hl⟩
  rw [h] at h5
  exact (Option.some.inj h5).symm
theorem xCN {host : String} (hts : ∀ w ∈ WS, w.before args s = true) (hN : NG s) (q : xCal y bytes maxL ret k) (hrc : rm.cells = 0) (hrs : rm.slots = 0) (hR : rm.frames + 1 ≤ R.frames ∧ 8 + (maxL + 11) + rm.locals ≤ R.locals) (hl : Cond.methodLinkNest own index y host ∈ NW) : va_CN R s args own index y host bytes maxL ret WS rm 0 0 k := by
  obtain ⟨h1, h2, h3, h4, h5⟩ := q
  refine ⟨⟨hrc, hrs, hR.1, hR.2, pay_in hts WS_good, h1⟩, hts _ h1, hts _ h2, ⟨h3, h4⟩, fun sig h => ?_, va_Nw.use rfl (hN _ hl)⟩
  rw [h] at h5
  exact (Option.some.inj h5).symm
/-- what stands fast through a walk -/
def xC (p : Program) (m : MethodId) (c : Code) (cc : ByteArray) (nL : Nat) (s : State) (args : Array Value) (own : String) (D : va_G) (cl : List vw_C) (tys : List (ClassId × FieldType)) (n : Nat) (Θ : Nat → Nat) (sz : Nat) : Prop := (p.tables.exec = Jvm.exec ∧ c.code = cc ∧ c.maxLocals = nL ∧ s.vm.findClass own = some m.cls ∧ ∀ w ∈ WS, w.before args s = true) ∧ va_K D cl tys s ∧ NG s ∧ SG (xA n Θ sz) s ∧ sz ≤ s.heap.size
theorem x_S (C : xC p m c cc nL s args own D cl tys n Θ sz) (hP : va_P D cl (xw n Θ X I J) H) (hS : va_S (xA n Θ sz) s.heap H locs) (hM : Met l y WS rm (va_Pc As (xPR D cl tys n Θ X sz I J)) Qc 0 0 (xA n Θ sz)) (q : xCal y bytes maxL ret k) (hst : Cond.static y ∈ WS) (hl : Cond.methodLink own index y ∈ WS) (hrc : rm.cells = 0) (hrs : rm.slots = 0) (hR : rm.frames + 1 ≤ R.frames ∧ 8 + (maxL + 11) + rm.locals ≤ R.locals)
    (hn : As.length = k) (hsize : ls.size = nL) (hstack : st0 = As.reverse ++ rest) (hW : (rest.map fun v => v.category).sum ≤ 8) (hdg : decode cc pc = .ok (.invokestatic index, 3)) : va_Run p l e R s m args below meth c H locs 0 0 0 0 (F0 m pc ls st0) rest (Qc As.toArray) (xA n Θ sz) :=
  va_runS C.1 hM ⟨xCB C.1.2.2.2.2 q hrc hrs hR hl, C.1.2.2.2.2 _ hst⟩ ⟨xPR_blind, xPR_at C.2.2.2.2 hP C.2.1 C.2.2.1 C.2.2.2.1 hS⟩ rfl hn hsize hstack (lv_room hW) hdg ⟨Nat.zero_le _, Nat.zero_le _⟩
theorem x_SN {host : String} (C : xC p m c cc nL s args own D cl tys n Θ sz) (hP : va_P D cl (xw n Θ X I J) H) (hS : va_S (xA n Θ sz) s.heap H locs) (hM : Met l y WS rm (va_Pc As (xPR D cl tys n Θ X sz I J)) Qc 0 0 (xA n Θ sz)) (q : xCal y bytes maxL ret k) (hst : Cond.static y ∈ WS) (hl : Cond.methodLinkNest own index y host ∈ NW) (hrc : rm.cells = 0) (hrs : rm.slots = 0) (hR : rm.frames + 1 ≤ R.frames ∧ 8 + (maxL + 11) + rm.locals ≤ R.locals)
    (hn : As.length = k) (hsize : ls.size = nL) (hstack : st0 = As.reverse ++ rest) (hW : (rest.map fun v => v.category).sum ≤ 8) (hdg : decode cc pc = .ok (.invokestatic index, 3)) : va_Run p l e R s m args below meth c H locs 0 0 0 0 (F0 m pc ls st0) rest (Qc As.toArray) (xA n Θ sz) :=
  va_runSN C.1 hM ⟨xCN C.1.2.2.2.2 C.2.2.1 q hrc hrs hR hl, C.1.2.2.2.2 _ hst, trivial⟩ ⟨xPR_blind, xPR_at C.2.2.2.2 hP C.2.1 C.2.2.1 C.2.2.2.1 hS⟩ rfl hn hsize hstack (lv_room hW) hdg ⟨Nat.zero_le _, Nat.zero_le _⟩
theorem x_V {o ci N : Nat} {T : u_T} {fs : List Value} (C : xC p m c cc nL s args own D cl tys n Θ sz) (hP : va_P D cl (xw n Θ X I J) H) (hS : va_S (xA n Θ sz) s.heap H locs) (ho : o < n) (hE : X o (I o) (J o) = .inr (ci, fs)) (hc : cl[ci]? = some (y.cls, T, N)) (hM : Met l y WS rm (va_Pc (.ref (Θ o) :: As) (xPR D cl tys n Θ X sz I J)) Qc 0 0 (xA n Θ sz)) (q : xCal y bytes maxL ret k) (hin : Cond.instanceMethod y ∈ WS) (hse : Cond.selects y.cls y y ∈ WS) (hl : Cond.methodLink own index y ∈ WS) (hrc : rm.cells = 0) (hrs : rm.slots = 0) (hR : rm.frames + 1 ≤ R.frames ∧ 8 + (maxL + 11) + rm.locals ≤ R.locals)
    (hn : As.length = k) (hsize : ls.size = nL) (hstack : st0 = As.reverse ++ .ref (Θ o) :: rest) (hW : (rest.map fun v => v.category).sum ≤ 8) (hdg : decode cc pc = .ok (.invokevirtual index, 3)) : va_Run p l e R s m args below meth c H locs 0 0 0 0 (F0 m pc ls st0) rest (Qc (Value.ref (Θ o) :: As).toArray) (xA n Θ sz) :=
  va_runV C.1 hM ⟨xCB C.1.2.2.2.2 q hrc hrs hR hl, C.1.2.2.2.2 _ hin, C.1.2.2.2.2 _ hse⟩ ⟨xPR_blind, va_recv C.2.1 hP hc (xw_at ho hE), xPR_at C.2.2.2.2 hP C.2.1 C.2.2.1 C.2.2.2.1 hS⟩ rfl hn hsize hstack (lv_room hW) hdg ⟨Nat.zero_le _, Nat.zero_le _⟩
theorem x_VN {host : String} {o ci N : Nat} {T : u_T} {fs : List Value} (C : xC p m c cc nL s args own D cl tys n Θ sz) (hP : va_P D cl (xw n Θ X I J) H) (hS : va_S (xA n Θ sz) s.heap H locs) (ho : o < n) (hE : X o (I o) (J o) = .inr (ci, fs)) (hc : cl[ci]? = some (y.cls, T, N)) (hM : Met l y WS rm (va_Pc (.ref (Θ o) :: As) (xPR D cl tys n Θ X sz I J)) Qc 0 0 (xA n Θ sz)) (q : xCal y bytes maxL ret k) (hin : Cond.instanceMethod y ∈ WS) (hse : Cond.selects y.cls y y ∈ WS) (hl : Cond.methodLinkNest own index y host ∈ NW) (hrc : rm.cells = 0) (hrs : rm.slots = 0) (hR : rm.frames + 1 ≤ R.frames ∧ 8 + (maxL + 11) + rm.locals ≤ R.locals)
    (hn : As.length = k) (hsize : ls.size = nL) (hstack : st0 = As.reverse ++ .ref (Θ o) :: rest) (hW : (rest.map fun v => v.category).sum ≤ 8) (hdg : decode cc pc = .ok (.invokevirtual index, 3)) : va_Run p l e R s m args below meth c H locs 0 0 0 0 (F0 m pc ls st0) rest (Qc (Value.ref (Θ o) :: As).toArray) (xA n Θ sz) :=
  va_runVN C.1 hM ⟨xCN C.1.2.2.2.2 C.2.2.1 q hrc hrs hR hl, C.1.2.2.2.2 _ hin, C.1.2.2.2.2 _ hse⟩ ⟨xPR_blind, va_recv C.2.1 hP hc (xw_at ho hE), xPR_at C.2.2.2.2 hP C.2.1 C.2.2.1 C.2.2.2.1 hS⟩ rfl hn hsize hstack (lv_room hW) hdg ⟨Nat.zero_le _, Nat.zero_le _⟩
/-- and on behind it -/
theorem x_gi {a : Array Value} {post : Int32 → SI → SJ → Prop} (hr : va_Run p l e R s m args below meth c H locs 0 0 0 0 (F0 m pc ls st0) rest (xQi D cl n Θ X sz post a) (xA n Θ sz)) (hS : va_S (xA n Θ sz) s.heap H locs)
    (kk : ∀ (r : Int32) (I1 : SI) (J1 : SJ), post r I1 J1 → ∀ (H1 : Heap) (locs1 : List Loc), va_P D cl (xw n Θ X I1 J1) H1 → va_S (xA n Θ sz) s.heap H1 locs1 → W p l e R s m args below meth c H1 locs1 0 0 Q (F0 m (pc + 3) ls (.int r :: rest))) : W p l e R s m args below meth c H locs 0 0 Q (F0 m pc ls st0) :=
  va_calli hr hS (fun _ _ h => h) (fun _ h => h) (fun r u t H1 locs1 ht _ h1 h2 _ _ h3 => kk r u.1 u.2 h1 H1 locs1 (ht ▸ h2) h3)
theorem x_gl {a : Array Value} {post : Int64 → SI → SJ → Prop} (hr : va_Run p l e R s m args below meth c H locs 0 0 0 0 (F0 m pc ls st0) rest (xQl D cl n Θ X sz post a) (xA n Θ sz)) (hS : va_S (xA n Θ sz) s.heap H locs)
    (kk : ∀ (r : Int64) (I1 : SI) (J1 : SJ), post r I1 J1 → ∀ (H1 : Heap) (locs1 : List Loc), va_P D cl (xw n Θ X I1 J1) H1 → va_S (xA n Θ sz) s.heap H1 locs1 → W p l e R s m args below meth c H1 locs1 0 0 Q (F0 m (pc + 3) ls (.long r :: rest))) : W p l e R s m args below meth c H locs 0 0 Q (F0 m pc ls st0) :=
  va_calll hr hS (fun _ _ h => h) (fun _ h => h) (fun r u t H1 locs1 ht _ h1 h2 _ _ h3 => kk r u.1 u.2 h1 H1 locs1 (ht ▸ h2) h3)
theorem x_gv {a : Array Value} {post : SI → SJ → Prop} (hr : va_Run p l e R s m args below meth c H locs 0 0 0 0 (F0 m pc ls st0) rest (xQv D cl n Θ X sz post a) (xA n Θ sz)) (hS : va_S (xA n Θ sz) s.heap H locs)
    (kk : ∀ (I1 : SI) (J1 : SJ), post I1 J1 → ∀ (H1 : Heap) (locs1 : List Loc), va_P D cl (xw n Θ X I1 J1) H1 → va_S (xA n Θ sz) s.heap H1 locs1 → W p l e R s m args below meth c H1 locs1 0 0 Q (F0 m (pc + 3) ls rest)) : W p l e R s m args below meth c H locs 0 0 Q (F0 m pc ls st0) :=
  va_callv hr hS (fun _ _ h => h) (fun _ h => h) (fun u t H1 locs1 ht _ h1 h2 _ _ h3 => kk u.1 u.2 h1 H1 locs1 (ht ▸ h2) h3)
/-- ends -/
theorem x_iret {v : Int32} {post : Int32 → SI → SJ → Prop} (hx : p.tables.exec = Jvm.exec) (hb : c.code = cc) (hr : meth.sig.returnType = some .int) (hlocks : meth.locks = false) (hP : va_P D cl (xw n Θ X I J) H) (hS : va_S (xA n Θ sz) s.heap H locs) (h : post v I J) (hdg : decode cc pc = .ok (.ireturn, 1)) : W p l e R s m args below meth c H locs 0 0 (MQ below (xQi D cl n Θ X sz post) args s 0 0 (xA n Θ sz)) (F0 m pc ls [.int v]) :=
  W.iret (v := v) hx hb hr (fun t ht hW => ⟨⟨v, (I, J), rfl, h, by show va_P D cl (xw n Θ X I J) t.heap; rw [ht]; exact hP⟩, hS.F ht⟩) hS.2.2 hdg hlocks
theorem x_zret {v : Int32} {post : Int32 → SI → SJ → Prop} (hx : p.tables.exec = Jvm.exec) (hb : c.code = cc) (hr : meth.sig.returnType = some .boolean) (hlocks : meth.locks = false) (hP : va_P D cl (xw n Θ X I J) H) (hS : va_S (xA n Θ sz) s.heap H locs) (hv : v = 0 ∨ v = 1) (h : post v I J) (hdg : decode cc pc = .ok (.ireturn, 1)) : W p l e R s m args below meth c H locs 0 0 (MQ below (xQi D cl n Θ X sz post) args s 0 0 (xA n Θ sz)) (F0 m pc ls [.int v]) :=
  W.zret (v := v) hx hb hr (by rcases hv with rfl | rfl <;> rfl) (fun t ht hW => ⟨⟨v, (I, J), rfl, h, by show va_P D cl (xw n Θ X I J) t.heap; rw [ht]; exact hP⟩, hS.F ht⟩) hS.2.2 hdg hlocks
theorem x_lret {v : Int64} {post : Int64 → SI → SJ → Prop} (hx : p.tables.exec = Jvm.exec) (hb : c.code = cc) (hr : meth.sig.returnType = some .long) (hlocks : meth.locks = false) (hP : va_P D cl (xw n Θ X I J) H) (hS : va_S (xA n Θ sz) s.heap H locs) (h : post v I J) (hdg : decode cc pc = .ok (.lreturn, 1)) : W p l e R s m args below meth c H locs 0 0 (MQ below (xQl D cl n Θ X sz post) args s 0 0 (xA n Θ sz)) (F0 m pc ls [.long v]) :=
  W.lret (v := v) hx hb hr (fun t ht hW => ⟨⟨v, (I, J), rfl, h, by show va_P D cl (xw n Θ X I J) t.heap; rw [ht]; exact hP⟩, hS.F ht⟩) hS.2.2 hdg hlocks
theorem x_vret {post : SI → SJ → Prop} (hx : p.tables.exec = Jvm.exec) (hb : c.code = cc) (hr : meth.sig.returnType = none) (hlocks : meth.locks = false) (hP : va_P D cl (xw n Θ X I J) H) (hS : va_S (xA n Θ sz) s.heap H locs) (h : post I J) (hdg : decode cc pc = .ok (.return_, 1)) : W p l e R s m args below meth c H locs 0 0 (MQ below (xQv D cl n Θ X sz post) args s 0 0 (xA n Θ sz)) (F0 m pc ls []) :=
  W.vret hx hb hr (fun t ht hW => ⟨⟨(I, J), rfl, h, by show va_P D cl (xw n Θ X I J) t.heap; rw [ht]; exact hP⟩, hS.F ht⟩) hS.2.2 hdg hlocks
end XC
