/-! base: a flat picture of a system's cells. I o k: the k-th int of cell o; J o k: the k-th long of cell o; Θ o: its address; X o f g: what cell o is when its ints are f and its longs g. -/
abbrev SI : Type := Nat → Nat → Int32
abbrev SJ : Type := Nat → Nat → Int64
abbrev EE : Type := Nat → (Nat → Int32) → (Nat → Int64) → va_E
def xr {α : Type} (F : Nat → α) (o : Nat) (r : α) : Nat → α := fun a => if a = o then r else F a
theorem xr_s {α : Type} (F : Nat → α) (o : Nat) (r : α) : xr F o r o = r := if_pos rfl
theorem xr_n {α : Type} (F : Nat → α) {o a : Nat} (r : α) (h : a ≠ o) : xr F o r a = F a := if_neg h
def xu (F : SI) (o k : Nat) (v : Int32) : SI := xr F o (upd (F o) k v)
def xv (F : SJ) (o k : Nat) (v : Int64) : SJ := xr F o (vp_updL (F o) k v)
theorem xu_s (F : SI) (o k : Nat) (v : Int32) : xu F o k v o k = v := by
  unfold xu
  rw [xr_s]
  exact if_pos rfl
theorem xu_k (F : SI) (o : Nat) {k b : Nat} (v : Int32) (h : b ≠ k) : xu F o k v o b = F o b := by
  unfold xu
  rw [xr_s]
  exact if_neg h
theorem xu_o (F : SI) {o a : Nat} (k : Nat) (v : Int32) (h : a ≠ o) : xu F o k v a = F a := xr_n F _ h
theorem xv_s (F : SJ) (o k : Nat) (v : Int64) : xv F o k v o k = v := by
  unfold xv
  rw [xr_s]
  exact if_pos rfl
theorem xv_k (F : SJ) (o : Nat) {k b : Nat} (v : Int64) (h : b ≠ k) : xv F o k v o b = F o b := by
  unfold xv
  rw [xr_s]
  exact if_neg h
theorem xv_o (F : SJ) {o a : Nat} (k : Nat) (v : Int64) (h : a ≠ o) : xv F o k v a = F a := xr_n F _ h
def xw (n : Nat) (Θ : Nat → Nat) (X : EE) (I : SI) (J : SJ) : va_W := (List.range n).map (fun o => (Θ o, X o (I o) (J o)))
theorem xw_at {n : Nat} {Θ : Nat → Nat} {X : EE} {I : SI} {J : SJ} {o : Nat} {e : va_E} (ho : o < n) (he : X o (I o) (J o) = e) : (xw n Θ X I J)[o]? = some (Θ o, e) := by
  subst he
  simp [xw, ho]
theorem xw_none {n : Nat} {Θ : Nat → Nat} {X : EE} {I : SI} {J : SJ} {o : Nat} (ho : ¬ o < n) : (xw n Θ X I J)[o]? = none := by
  apply List.getElem?_eq_none
  simp only [xw, List.length_map, List.length_range]
  omega
theorem xw_of {n : Nat} {Θ : Nat → Nat} {X : EE} {I : SI} {J : SJ} {o : Nat} {q : Nat × va_E} (h : (xw n Θ X I J)[o]? = some q) : o < n ∧ q = (Θ o, X o (I o) (J o)) := by
  by_cases ho : o < n
  · rw [xw_at ho rfl] at h
    exact ⟨ho, (Option.some.inj h).symm⟩
  · rw [xw_none ho] at h
    cases h
theorem xw_set {n : Nat} {Θ : Nat → Nat} {X : EE} {I I' : SI} {J J' : SJ} {o : Nat} {e : va_E} (ho : o < n) (hI : ∀ a, a ≠ o → I' a = I a) (hJ : ∀ a, a ≠ o → J' a = J a) (he : X o (I' o) (J' o) = e) : (xw n Θ X I J).set o (Θ o, e) = xw n Θ X I' J' := by
  apply List.ext_getElem?
  intro k
  by_cases hk : k = o
  · subst hk
    rw [List.getElem?_set_self (by simp only [xw, List.length_map, List.length_range]; exact ho), xw_at ho he]
  · rw [List.getElem?_set_ne (Ne.symm hk)]
    by_cases hkn : k < n
    · rw [xw_at hkn rfl, xw_at hkn rfl, hI k hk, hJ k hk]
    · rw [xw_none hkn, xw_none hkn]
/-- the cells that a method may change: the system's own, and new ones -/
def xA (n : Nat) (Θ : Nat → Nat) (sz : Nat) : Nat → Prop := fun q => (∃ o, o < n ∧ q = Θ o) ∨ sz ≤ q
def xJ (n : Nat) (Θ : Nat → Nat) : Prop := ∀ i j, i < n → j < n → Θ i = Θ j → i = j
theorem xw_D {n sz : Nat} {Θ : Nat → Nat} {X : EE} {I : SI} {J : SJ} (hΘ : xJ n Θ) : va_D (xA n Θ sz) (xw n Θ X I J) := by
  refine ⟨fun i j p q hi hj hpq => ?_, fun k q hk => ?_⟩
  · obtain ⟨h1, rfl⟩ := xw_of hi
    obtain ⟨h2, rfl⟩ := xw_of hj
    exact hΘ i j h1 h2 hpq
  · obtain ⟨h1, rfl⟩ := xw_of hk
    exact Or.inl ⟨k, h1, rfl⟩
section XB
variable {p : Program} {l : Launch} {e : Env} {R : Room} {s : State} {m : MethodId} {args : Array Value} {below : List Frame} {meth : Method} {c : Code} {H : Heap} {locs : List Loc} {cells slots : Nat} {Q : State → Prop}
variable {cc : ByteArray} {pc : Nat} {ls : Array Slot} {rest : List Value} {D : va_G} {cl : List vw_C} {tys : List (ClassId × FieldType)} {H0 : Heap} {n sz : Nat} {Θ : Nat → Nat} {X : EE} {I : SI} {J : SJ}
/-- a row of an int array -/
theorem x_iald (hx : p.tables.exec = Jvm.exec) (hb : c.code = cc) (hK : va_K D cl tys s) (hP : va_P D cl (xw n Θ X I J) H) (o t0 : Nat) (ho : o < n) {cA : ClassId} {N : Nat} (hE : ∀ f g, X o f g = .inl (cA, N, .inl f)) (ht : tys[t0]? = some (cA, .int)) {i : Int32} {j : Nat} (hi : i = nI j) (hj : j < N) (hN : N < 2 ^ 31) (hdg : decode cc pc = .ok (.iaload, 1))
    (kk : W p l e R s m args below meth c H locs cells slots Q (F0 m (pc + 1) ls (.int (I o j) :: rest))) : W p l e R s m args below meth c H locs cells slots Q (F0 m pc ls (.int i :: .ref (Θ o) :: rest)) := by
  subst hi
  refine va_iald hx hb hK hP o t0 (xw_at ho (hE _ _)) ht (vp_in_nI hj hN) hdg ?_
  rw [nI_clamp (Nat.lt_trans hj hN)]
  exact kk
theorem x_zald (hx : p.tables.exec = Jvm.exec) (hb : c.code = cc) (hK : va_K D cl tys s) (hP : va_P D cl (xw n Θ X I J) H) (o t0 : Nat) (ho : o < n) {cA : ClassId} {N : Nat} (hE : ∀ f g, X o f g = .inl (cA, N, .inl f)) (ht : tys[t0]? = some (cA, .boolean)) {i : Int32} {j : Nat} (hi : i = nI j) (hj : j < N) (hN : N < 2 ^ 31) (hdg : decode cc pc = .ok (.baload, 1))
    (kk : W p l e R s m args below meth c H locs cells slots Q (F0 m (pc + 1) ls (.int (I o j) :: rest))) : W p l e R s m args below meth c H locs cells slots Q (F0 m pc ls (.int i :: .ref (Θ o) :: rest)) := by
  subst hi
  refine va_zald hx hb hK hP o t0 (xw_at ho (hE _ _)) ht (vp_in_nI hj hN) hdg ?_
  rw [nI_clamp (Nat.lt_trans hj hN)]
  exact kk
theorem x_lald (hx : p.tables.exec = Jvm.exec) (hb : c.code = cc) (hK : va_K D cl tys s) (hP : va_P D cl (xw n Θ X I J) H) (o t0 : Nat) (ho : o < n) {cA : ClassId} {N : Nat} (hE : ∀ f g, X o f g = .inl (cA, N, .inr (.inl g))) (ht : tys[t0]? = some (cA, .long)) {i : Int32} {j : Nat} (hi : i = nI j) (hj : j < N) (hN : N < 2 ^ 31) (hdg : decode cc pc = .ok (.laload, 1))
    (kk : W p l e R s m args below meth c H locs cells slots Q (F0 m (pc + 1) ls (.long (J o j) :: rest))) : W p l e R s m args below meth c H locs cells slots Q (F0 m pc ls (.int i :: .ref (Θ o) :: rest)) := by
  subst hi
  refine va_lald hx hb hK hP o t0 (xw_at ho (hE _ _)) ht (vp_in_nI hj hN) hdg ?_
  rw [nI_clamp (Nat.lt_trans hj hN)]
  exact kk
theorem x_iast (hx : p.tables.exec = Jvm.exec) (hb : c.code = cc) (hK : va_K D cl tys s) (hΘ : xJ n Θ) (hP : va_P D cl (xw n Θ X I J) H) (hS : va_S (xA n Θ sz) H0 H locs) (o t0 : Nat) (ho : o < n) {cA : ClassId} {N : Nat} (hE : ∀ f g, X o f g = .inl (cA, N, .inl f)) (ht : tys[t0]? = some (cA, .int)) {i v : Int32} {j : Nat} (hi : i = nI j) (hj : j < N) (hN : N < 2 ^ 31) (hdg : decode cc pc = .ok (.iastore, 1))
    (kk : ∀ (H1 : Heap) (locs1 : List Loc), va_P D cl (xw n Θ X (xu I o j v) J) H1 → va_S (xA n Θ sz) H0 H1 locs1 → W p l e R s m args below meth c H1 locs1 cells slots Q (F0 m (pc + 1) ls rest)) : W p l e R s m args below meth c H locs cells slots Q (F0 m pc ls (.int v :: .int i :: .ref (Θ o) :: rest)) := by
  subst hi
  refine va_iast hx hb hK hP (xw_D hΘ) hS o t0 (xw_at ho (hE _ _)) ht (vp_in_nI hj hN) hdg (fun H1 locs1 h1 _ h3 => ?_)
  rw [nI_clamp (Nat.lt_trans hj hN), xw_set (I' := xu I o j v) (J' := J) ho (fun a ha => xu_o I j v ha) (fun _ _ => rfl) (by rw [hE]; unfold xu; rw [xr_s])] at h1
  exact kk H1 locs1 h1 h3
theorem x_zast (hx : p.tables.exec = Jvm.exec) (hb : c.code = cc) (hK : va_K D cl tys s) (hΘ : xJ n Θ) (hP : va_P D cl (xw n Θ X I J) H) (hS : va_S (xA n Θ sz) H0 H locs) (o t0 : Nat) (ho : o < n) {cA : ClassId} {N : Nat} (hE : ∀ f g, X o f g = .inl (cA, N, .inl f)) (ht : tys[t0]? = some (cA, .boolean)) {i v : Int32} {j : Nat} (hi : i = nI j) (hj : j < N) (hN : N < 2 ^ 31) (hv : v = 0 ∨ v = 1) (hdg : decode cc pc = .ok (.bastore, 1))
    (kk : ∀ (H1 : Heap) (locs1 : List Loc), va_P D cl (xw n Θ X (xu I o j v) J) H1 → va_S (xA n Θ sz) H0 H1 locs1 → W p l e R s m args below meth c H1 locs1 cells slots Q (F0 m (pc + 1) ls rest)) : W p l e R s m args below meth c H locs cells slots Q (F0 m pc ls (.int v :: .int i :: .ref (Θ o) :: rest)) := by
  subst hi
  have hv2 : vp_nar .boolean v = v := by rcases hv with rfl | rfl <;> decide
  refine va_zast hx hb hK hP (xw_D hΘ) hS o t0 (xw_at ho (hE _ _)) ht (vp_in_nI hj hN) hdg (fun H1 locs1 h1 _ h3 => ?_)
  rw [hv2, nI_clamp (Nat.lt_trans hj hN), xw_set (I' := xu I o j v) (J' := J) ho (fun a ha => xu_o I j v ha) (fun _ _ => rfl) (by rw [hE]; unfold xu; rw [xr_s])] at h1
  exact kk H1 locs1 h1 h3
theorem x_last (hx : p.tables.exec = Jvm.exec) (hb : c.code = cc) (hK : va_K D cl tys s) (hΘ : xJ n Θ) (hP : va_P D cl (xw n Θ X I J) H) (hS : va_S (xA n Θ sz) H0 H locs) (o t0 : Nat) (ho : o < n) {cA : ClassId} {N : Nat} (hE : ∀ f g, X o f g = .inl (cA, N, .inr (.inl g))) (ht : tys[t0]? = some (cA, .long)) {i : Int32} {v : Int64} {j : Nat} (hi : i = nI j) (hj : j < N) (hN : N < 2 ^ 31) (hdg : decode cc pc = .ok (.lastore, 1))
    (kk : ∀ (H1 : Heap) (locs1 : List Loc), va_P D cl (xw n Θ X I (xv J o j v)) H1 → va_S (xA n Θ sz) H0 H1 locs1 → W p l e R s m args below meth c H1 locs1 cells slots Q (F0 m (pc + 1) ls rest)) : W p l e R s m args below meth c H locs cells slots Q (F0 m pc ls (.long v :: .int i :: .ref (Θ o) :: rest)) := by
  subst hi
  refine va_last hx hb hK hP (xw_D hΘ) hS o t0 (xw_at ho (hE _ _)) ht (vp_in_nI hj hN) hdg (fun H1 locs1 h1 _ h3 => ?_)
  rw [nI_clamp (Nat.lt_trans hj hN), xw_set (I' := I) (J' := xv J o j v) ho (fun _ _ => rfl) (fun a ha => xv_o J j v ha) (by rw [hE]; unfold xv; rw [xr_s])] at h1
  exact kk H1 locs1 h1 h3
/-- a row of an array of objects that never changes -/
theorem x_aald (hx : p.tables.exec = Jvm.exec) (hb : c.code = cc) (hK : va_K D cl tys s) (hP : va_P D cl (xw n Θ X I J) H) (o t0 : Nat) (ho : o < n) {cA : ClassId} {C : String} {N b : Nat} (hE : ∀ f g, X o f g = .inl (cA, N, .inr (.inr (.inr (.inr (fun k => some (Θ (b + k)))))))) (ht : tys[t0]? = some (cA, .object C)) {i : Int32} {j : Nat} (hi : i = nI j) (hj : j < N) (hN : N < 2 ^ 31) (hdg : decode cc pc = .ok (.aaload, 1))
    (kk : W p l e R s m args below meth c H locs cells slots Q (F0 m (pc + 1) ls (.ref (Θ (b + j)) :: rest))) : W p l e R s m args below meth c H locs cells slots Q (F0 m pc ls (.int i :: .ref (Θ o) :: rest)) := by
  subst hi
  refine va_aldq hx hb hK hP o t0 (xw_at ho (hE _ _)) ht (vp_in_nI hj hN) hdg ?_
  rw [nI_clamp (Nat.lt_trans hj hN)]
  exact kk
end XB
