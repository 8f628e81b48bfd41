/-! a method that answers a mobile or null -/
def xQo (D : va_G) (cl : List vw_C) (n : Nat) (Θ : Nat → Nat) (X : EE) (sz b N : Nat) (post : Option Nat → SI → SJ → Prop) : Array Value → State → Outcome → State → Prop := fun _ st oc t => (∃ (r : Option Nat) (I : SI) (J : SJ), oc = .returned (some (va_rf (r.map (fun j => Θ (b + j))))) ∧ (∀ j, r = some j → j < N) ∧ post r I J ∧ va_P D cl (xw n Θ X I J) t.heap) ∧ va_F (xA n Θ sz) st t
section XO
variable {p : Program} {l : Launch} {e : Env} {R : Room} {s : State} {m : MethodId} {args : Array Value} {below : List Frame} {meth : Method} {c : Code} {H : Heap} {locs : List Loc} {Q : State → Prop}
variable {cc : ByteArray} {pc : Nat} {ls : Array Slot} {rest st0 : List Value} {D : va_G} {cl : List vw_C} {n sz b N : Nat} {Θ : Nat → Nat} {X : EE} {I : SI} {J : SJ}
theorem x_aretS {C : String} {j : Nat} {post : Option Nat → SI → SJ → Prop} (hx : p.tables.exec = Jvm.exec) (hb : c.code = cc) (hr : meth.sig.returnType = some (.object C)) (hlocks : meth.locks = false) (hP : va_P D cl (xw n Θ X I J) H) (hS : va_S (xA n Θ sz) s.heap H locs) (hj : j < N) (h : post (some j) I J) (hdg : decode cc pc = .ok (.areturn, 1)) : W p l e R s m args below meth c H locs 0 0 (MQ below (xQo D cl n Θ X sz b N post) args s 0 0 (xA n Θ sz)) (F0 m pc ls [.ref (Θ (b + j))]) :=
  W.aret (v := .ref (Θ (b + j))) hx hb hr (Or.inl ⟨C, rfl⟩) (Or.inr ⟨_, rfl⟩) (fun t ht hW => ⟨⟨some j, I, J, rfl, (fun q hq => by cases hq; exact hj), h, by rw [ht]; exact hP⟩, hS.F ht⟩) hS.2.2 hdg hlocks
theorem x_aretN {C : String} {post : Option Nat → SI → SJ → Prop} (hx : p.tables.exec = Jvm.exec) (hb : c.code = cc) (hr : meth.sig.returnType = some (.object C)) (hlocks : meth.locks = false) (hP : va_P D cl (xw n Θ X I J) H) (hS : va_S (xA n Θ sz) s.heap H locs) (h : post none I J) (hdg : decode cc pc = .ok (.areturn, 1)) : W p l e R s m args below meth c H locs 0 0 (MQ below (xQo D cl n Θ X sz b N post) args s 0 0 (xA n Θ sz)) (F0 m pc ls [.null]) :=
  W.aret (v := .null) hx hb hr (Or.inl ⟨C, rfl⟩) (Or.inl rfl) (fun t ht hW => ⟨⟨none, I, J, rfl, (fun q hq => by cases hq), h, by rw [ht]; exact hP⟩, hS.F ht⟩) hS.2.2 hdg hlocks
theorem x_go {a : Array Value} {post : Option Nat → SI → SJ → Prop} (hr : va_Run p l e R s m args below meth c H locs 0 0 0 0 (F0 m pc ls st0) rest (xQo D cl n Θ X sz b N post a) (xA n Θ sz)) (hS : va_S (xA n Θ sz) s.heap H locs)
    (kn : ∀ (I1 : SI) (J1 : SJ), post none I1 J1 → ∀ (H1 : Heap) (locs1 : List Loc), va_P D cl (xw n Θ X I1 J1) H1 → va_S (xA n Θ sz) s.heap H1 locs1 → W p l e R s m args below meth c H1 locs1 0 0 Q (F0 m (pc + 3) ls (.null :: rest)))
    (ks : ∀ (j : Nat) (I1 : SI) (J1 : SJ), j < N → post (some j) I1 J1 → ∀ (H1 : Heap) (locs1 : List Loc), va_P D cl (xw n Θ X I1 J1) H1 → va_S (xA n Θ sz) s.heap H1 locs1 → W p l e R s m args below meth c H1 locs1 0 0 Q (F0 m (pc + 3) ls (.ref (Θ (b + j)) :: rest))) : W p l e R s m args below meth c H locs 0 0 Q (F0 m pc ls st0) := by
  intro T hT Y
  obtain ⟨v, st₀, t, T', L, h0, Y', hL, e1, e2, ⟨⟨r, I1, J1, hv, hj, hp, hb⟩, hz, hk⟩, st⟩ := hr T hT Y
  cases hv
  rw [h0] at hz hk
  have hS1 : va_S (xA n Θ sz) s.heap T'.heap (locs ++ L) := ⟨Nat.le_trans hS.1 (by rw [e1]; exact hz), fun q h1 h2 => by rw [e1, hk q (Nat.lt_of_lt_of_le h1 hS.1) h2]; exact hS.2.1 q h1 h2, fun q hq => by
      rcases List.mem_append.mp hq with h | h
      · exact hS.2.2 q h
      · exact hL q h⟩
  cases r with
  | none =>
    obtain ⟨t2, a1, b1⟩ := kn I1 J1 hp T'.heap (locs ++ L) (by rw [e1]; exact hb) hS1 T' rfl Y'
    exact ⟨t2, st t2 a1, b1⟩
  | some j =>
    obtain ⟨t2, a1, b1⟩ := ks j I1 J1 (hj j rfl) hp T'.heap (locs ++ L) (by rw [e1]; exact hb) hS1 T' rfl Y'
    exact ⟨t2, st t2 a1, b1⟩
end XO
