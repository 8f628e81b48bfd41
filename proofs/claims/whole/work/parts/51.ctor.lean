/-! constructors: the world as a list; what they find and leave -/
def AG (U : State) : Prop := va_AO "TrunkCells$Mobile" U ∧ va_AO "TrunkCells$Group" U ∧ va_AO "TrunkCells$Cell" U
theorem AG.moved {u U : State} (hvm : u.vm.Alike U.vm) (h : AG u) : AG U := ⟨h.1.moved hvm, h.2.1.moved hvm, h.2.2.moved hvm⟩
def cPre (D : va_G) (κ : Nat → ClassId) (z sz : Nat) (ws : va_W) : State → Prop := fun U => U.heap.size = sz ∧ z ≤ sz ∧ va_P D clA ws U.heap ∧ va_K D clA (tysA κ) U ∧ va_D (fun q => z ≤ q) ws ∧ NG U ∧ SG (fun q => z ≤ q) U ∧ AG U
abbrev cQ (D : va_G) (ws : va_W) (sz : Nat) (fin : (Nat → Nat) → va_W) : Array Value → State → Outcome → State → Prop := va_Qv (S := Nat → Nat) (fun _ => True) (fun Θ t => va_P D clA (fin Θ) t.heap ∧ va_D (va_A ws sz) (fin Θ)) (va_A ws sz)
theorem cPre_blind {D : va_G} {κ : Nat → ClassId} {z sz : Nat} {ws : va_W} {As : List Value} : FrameBlind (va_Pc As (cPre D κ z sz ws)) := by
  intro a U g mk h
  obtain ⟨h0, h1, h2, h3, h4, h5, h6, h7, h8⟩ := h
  exact ⟨h0, h1, h2, h3, va_K.moved (u := U) (U := U.calling g mk a) (Vm.Alike.refl U.vm) h4, h5, NG.same (u := U) rfl h6, SG.go (s := U) (U := U.calling g mk a) (Vm.Alike.refl U.vm) (fun _ _ _ => rfl) h7, AG.moved (u := U) (U := U.calling g mk a) (Vm.Alike.refl U.vm) h8⟩
theorem cPre_at {D : va_G} {κ : Nat → ClassId} {z : Nat} {ws : va_W} {As : List Value} {s : State} {H : Heap} {locs : List Loc} {A : Nat → Prop} (hz : z ≤ s.heap.size) (hP : va_P D clA ws H) (hK : va_K D clA (tysA κ) s) (hD : va_D A ws) (hAz : ∀ q, A q → z ≤ q) (hN : NG s) (hG : SG (fun q => z ≤ q) s) (hO : AG s) (hS : va_S A s.heap H locs) :
    ∀ U : State, U.heap = H → s.WarmedH U.vm → va_Pc As (cPre D κ z H.size ws) As.toArray U := by
  intro U hU hW
  subst hU
  exact ⟨rfl, rfl, Nat.le_trans hz hS.1, hP, va_K.moved hW.alike hK, hD.weaken (fun k q hk h => hAz _ h), hN.warm hW, hG.go hW.alike (fun a h1 h2 => hS.2.1 a h1 (fun h => h2 (hAz _ h))), hO.moved hW.alike⟩
section CT
variable {p : Program} {l : Launch} {e : Env} {R : Room} {s : State} {m : MethodId} {args : Array Value} {below : List Frame} {meth : Method} {c : Code} {H : Heap} {locs : List Loc} {cells slots : Nat} {Q : State → Prop}
variable {cc : ByteArray} {pc : Nat} {ls : Array Slot} {rest : List Value} {D : va_G} {cl : List vw_C} {A : Nat → Prop} {tys : List (ClassId × FieldType)} {ws : va_W} {H0 : Heap}
theorem y_same {t0 : Nat} {cA cB : ClassId} {ty : FieldType} (hty : ∀ C, ty ≠ .object C) (hK : va_K D cl tys s) (ht : tys[t0]? = some (cA, ty)) (hK2 : va_K D cl (tys ++ [(cB, ty)]) s) : cB = cA := by
  have h1 := (hK.2 t0 _ ht).2
  have h2 := (hK2.2 tys.length (cB, ty) (by simp)).2
  cases ty with
  | object C => exact absurd rfl (hty C)
  | _ => exact Option.some.inj (h2.symm.trans h1)
theorem y_sameO {t0 : Nat} {cA cB : ClassId} {C : String} (hK : va_K D cl tys s) (ht : tys[t0]? = some (cA, .object C)) (hK2 : va_K D cl (tys ++ [(cB, .object C)]) s) : cB = cA := by
  obtain ⟨_, _, _, _, _, h1⟩ := (hK.2 t0 _ ht).2
  obtain ⟨_, _, _, _, _, h2⟩ := (hK2.2 tys.length (cB, .object C) (by simp)).2
  exact Option.some.inj (h2.symm.trans h1)
theorem y_newI (hx : p.tables.exec = Jvm.exec) (hb : c.code = cc) (harr : (Cond.arrayClass .int).before args s = true) (t0 : Nat) {cA : ClassId} (hK : va_K D cl tys s) (ht : tys[t0]? = some (cA, .int)) (hP : va_P D cl ws H) (hD : va_D A ws) (hS : va_S A H0 H locs) (hA : ∀ q, H0.size ≤ q → A q) {k : Int32} {N : Nat} (hn : ¬ k < 0) (hN : k.toNatClampNeg = N) (hbytes : N * componentBytes .int ≤ 536870912) (hcells : cells + 1 ≤ R.cells) (hslots : slots + N ≤ R.slots) (hdg : decode cc pc = .ok (.newarray .int, 2))
    (kk : ∀ (q : Nat) (H1 : Heap), va_P D cl (ws ++ [(q, .inl (cA, N, .inl (fun _ => 0)))]) H1 → va_D A (ws ++ [(q, .inl (cA, N, .inl (fun _ => 0)))]) → va_S A H0 H1 locs → W p l e R s m args below meth c H1 locs (cells + 1) (slots + N) Q (F0 m (pc + 2) ls (.ref q :: rest))) : W p l e R s m args below meth c H locs cells slots Q (F0 m pc ls (.int k :: rest)) := by
  refine va_newa (atype := .int) (ty := .int) (a0 := (N, .inl (fun _ => 0))) hx hb harr rfl hK hP hD hS hA (fun _ => rfl) hn hN hbytes hcells hslots hdg (fun q cB H1 hK2 hP2 hD2 hS2 => ?_)
  obtain rfl := y_same (fun C h => by cases h) hK ht hK2
  exact kk q H1 hP2 hD2 hS2
theorem y_newJ (hx : p.tables.exec = Jvm.exec) (hb : c.code = cc) (harr : (Cond.arrayClass .long).before args s = true) (t0 : Nat) {cA : ClassId} (hK : va_K D cl tys s) (ht : tys[t0]? = some (cA, .long)) (hP : va_P D cl ws H) (hD : va_D A ws) (hS : va_S A H0 H locs) (hA : ∀ q, H0.size ≤ q → A q) {k : Int32} {N : Nat} (hn : ¬ k < 0) (hN : k.toNatClampNeg = N) (hbytes : N * componentBytes .long ≤ 536870912) (hcells : cells + 1 ≤ R.cells) (hslots : slots + N ≤ R.slots) (hdg : decode cc pc = .ok (.newarray .long, 2))
    (kk : ∀ (q : Nat) (H1 : Heap), va_P D cl (ws ++ [(q, .inl (cA, N, .inr (.inl (fun _ => 0))))]) H1 → va_D A (ws ++ [(q, .inl (cA, N, .inr (.inl (fun _ => 0))))]) → va_S A H0 H1 locs → W p l e R s m args below meth c H1 locs (cells + 1) (slots + N) Q (F0 m (pc + 2) ls (.ref q :: rest))) : W p l e R s m args below meth c H locs cells slots Q (F0 m pc ls (.int k :: rest)) := by
  refine va_newa (atype := .long) (ty := .long) (a0 := (N, .inr (.inl (fun _ => 0)))) hx hb harr rfl hK hP hD hS hA (fun _ => rfl) hn hN hbytes hcells hslots hdg (fun q cB H1 hK2 hP2 hD2 hS2 => ?_)
  obtain rfl := y_same (fun C h => by cases h) hK ht hK2
  exact kk q H1 hP2 hD2 hS2
theorem y_newZ (hx : p.tables.exec = Jvm.exec) (hb : c.code = cc) (harr : (Cond.arrayClass .boolean).before args s = true) (t0 : Nat) {cA : ClassId} (hK : va_K D cl tys s) (ht : tys[t0]? = some (cA, .boolean)) (hP : va_P D cl ws H) (hD : va_D A ws) (hS : va_S A H0 H locs) (hA : ∀ q, H0.size ≤ q → A q) {k : Int32} {N : Nat} (hn : ¬ k < 0) (hN : k.toNatClampNeg = N) (hbytes : N * componentBytes .boolean ≤ 536870912) (hcells : cells + 1 ≤ R.cells) (hslots : slots + N ≤ R.slots) (hdg : decode cc pc = .ok (.newarray .boolean, 2))
    (kk : ∀ (q : Nat) (H1 : Heap), va_P D cl (ws ++ [(q, .inl (cA, N, .inl (fun _ => 0)))]) H1 → va_D A (ws ++ [(q, .inl (cA, N, .inl (fun _ => 0)))]) → va_S A H0 H1 locs → W p l e R s m args below meth c H1 locs (cells + 1) (slots + N) Q (F0 m (pc + 2) ls (.ref q :: rest))) : W p l e R s m args below meth c H locs cells slots Q (F0 m pc ls (.int k :: rest)) := by
  refine va_newa (atype := .boolean) (ty := .boolean) (a0 := (N, .inl (fun _ => 0))) hx hb harr rfl hK hP hD hS hA (fun _ => rfl) hn hN hbytes hcells hslots hdg (fun q cB H1 hK2 hP2 hD2 hS2 => ?_)
  obtain rfl := y_same (fun C h => by cases h) hK ht hK2
  exact kk q H1 hP2 hD2 hS2
end CT
