/-! the small changes: keys, group, member, speak, fault -/
def dbl (f : (SI → SJ → Prop) → (Nat → SI → SJ → Prop) → SI → SJ → Prop) (r : (SI → SJ → Prop) → SI → SJ → Prop) (I : SI) (J : SJ) (A : SI) (B : SJ) (I' : SI) (J' : SJ) (A' : SI) (B' : SJ) : Prop :=
  (∀ (post : SI → SJ → Prop) (exc : Nat → SI → SJ → Prop), post I' J' → f post exc I J) ∧ (∀ post : SI → SJ → Prop, post A' B' → r post A B)
def thr (f : (SI → SJ → Prop) → (Nat → SI → SJ → Prop) → SI → SJ → Prop) (r : (SI → SJ → Prop) → SI → SJ → Prop) (I : SI) (J : SJ) (A : SI) (B : SJ) (k : Nat) (c : Int32) : Prop :=
  (∀ (post : SI → SJ → Prop) (exc : Nat → SI → SJ → Prop), exc k I J → f post exc I J) ∧ (∀ post : SI → SJ → Prop, post (xu A 0 0 c) B → r post A B)
theorem ne_0 {p q : Int32} (h : p < 0 ∨ q ≤ p) {post : Prop} {exc : Nat → Prop} {I : SI} {J : SJ} (k : exc 1) : pn_TC_needIndex p q post exc I J := by
  unfold pn_TC_needIndex pp_TC_isIndex
  exact ⟨fun _ => ⟨fun hc => absurd rfl hc, fun _ => k⟩, fun h1 => ⟨fun _ => ⟨fun hc => absurd rfl hc, fun _ => k⟩, fun h2 => absurd (h.resolve_left h1) h2⟩⟩
theorem ne_1 {j n : Nat} (h : j < n) (hn : n < 2 ^ 31) {post : Prop} {exc : Nat → Prop} {I : SI} {J : SJ} (k : post) : pn_TC_needIndex (nI j) (nI n) post exc I J := by
  unfold pn_TC_needIndex pp_TC_isIndex
  exact ⟨fun h1 => absurd h1 (nI_pos (by omega)), fun _ => ⟨fun h2 => absurd h2 (nI_ge h hn), fun _ => ⟨fun _ => k, fun hc => absurd hc (by decide)⟩⟩⟩
theorem d_keys {I : SI} {J : SJ} {A : SI} {B : SJ} (p1 : Int32) (p2 : Int32) (p3 : Int32) : thr (p_TC_keys p1 p2 p3) (p_Md_keys p1 p2 p3) I J A B 1 1 ∨ ∃ m, m < 8 ∧ p1 = nI m ∧ dbl (p_TC_keys p1 p2 p3) (p_Md_keys p1 p2 p3) I J A B (xu (xu I (14 + m) 4 p2) 7 m p3) (J) (xu (xu (xu A 0 0 0) 4 m p2) 5 m p3) (B) := by
  rcases ix_all p1 (n := 8) (by decide) with h | ⟨m, hm, rfl⟩
  · refine Or.inl ⟨fun post exc k => ne_0 h k, fun post k => ix_M0 h ⟨fun _ => ?_, fun hc => absurd rfl hc⟩⟩
    intro I4 e4
    subst e4
    exact ⟨fun _ => k, fun hc => absurd ((xu_s A 0 0 1).symm.trans hc) (by decide)⟩
  · refine Or.inr ⟨m, hm, rfl, fun post exc k => ne_1 hm (by decide) ?_, fun post k => ix_M1 hm (by decide) ⟨fun hc => absurd hc (by decide), fun _ => ?_⟩⟩
    · refine ⟨m, rfl, hm, fun _ e => ⟨m, rfl, hm, fun _ e' => ?_⟩⟩
      subst e; subst e'
      exact k
    · intro I4 e4
      subst e4
      refine ⟨fun hc => absurd (xu_s A 0 0 0) hc, fun _ => ?_⟩
      refine ⟨m, rfl, hm, fun _ e => ⟨m, rfl, hm, fun _ e' => ?_⟩⟩
      subst e; subst e'
      exact k
theorem d_group {I : SI} {J : SJ} {A : SI} {B : SJ} (p1 : Int32) (p2 : Int32) : thr (p_TC_group p1 p2) (p_Md_group p1 p2) I J A B 1 1 ∨ ∃ m, m < 4 ∧ p1 = nI m ∧ dbl (p_TC_group p1 p2) (p_Md_group p1 p2) I J A B (xu I (38 + m) 2 p2) (J) (xu (xu A 0 0 0) 26 m p2) (B) := by
  rcases ix_all p1 (n := 4) (by decide) with h | ⟨m, hm, rfl⟩
  · refine Or.inl ⟨fun post exc k => ne_0 h k, fun post k => ix_M0 h ⟨fun _ => ?_, fun hc => absurd rfl hc⟩⟩
    intro I4 e4
    subst e4
    exact ⟨fun _ => k, fun hc => absurd ((xu_s A 0 0 1).symm.trans hc) (by decide)⟩
  · refine Or.inr ⟨m, hm, rfl, fun post exc k => ne_1 hm (by decide) ?_, fun post k => ix_M1 hm (by decide) ⟨fun hc => absurd hc (by decide), fun _ => ?_⟩⟩
    · refine ⟨m, rfl, hm, fun _ e => ?_⟩
      subst e
      exact k
    · intro I4 e4
      subst e4
      refine ⟨fun hc => absurd (xu_s A 0 0 0) hc, fun _ => ?_⟩
      refine ⟨m, rfl, hm, fun _ e => ?_⟩
      subst e
      exact k
theorem d_member {I : SI} {J : SJ} {A : SI} {B : SJ} (p1 : Int32) (p2 : Int32) : thr (p_TC_member p1 p2) (p_Md_member p1 p2) I J A B 1 1 ∨ ∃ m, m < 8 ∧ p1 = nI m ∧ dbl (p_TC_member p1 p2) (p_Md_member p1 p2) I J A B (xu I 9 m (p2 &&& (15 : Int32))) (J) (xu (xu A 0 0 0) 6 m (p2 &&& (15 : Int32))) (B) := by
  rcases ix_all p1 (n := 8) (by decide) with h | ⟨m, hm, rfl⟩
  · refine Or.inl ⟨fun post exc k => ne_0 h k, fun post k => ix_M0 h ⟨fun _ => ?_, fun hc => absurd rfl hc⟩⟩
    intro I4 e4
    subst e4
    exact ⟨fun _ => k, fun hc => absurd ((xu_s A 0 0 1).symm.trans hc) (by decide)⟩
  · refine Or.inr ⟨m, hm, rfl, fun post exc k => ne_1 hm (by decide) ?_, fun post k => ix_M1 hm (by decide) ⟨fun hc => absurd hc (by decide), fun _ => ?_⟩⟩
    · refine ⟨m, rfl, hm, fun _ e => ?_⟩
      subst e
      exact k
    · intro I4 e4
      subst e4
      refine ⟨fun hc => absurd (xu_s A 0 0 0) hc, fun _ => ?_⟩
      refine ⟨m, rfl, hm, fun _ e => ?_⟩
      subst e
      exact k
theorem d_speak {I : SI} {J : SJ} {A : SI} {B : SJ} (p1 : Int32) (p2 : Int32) : thr (p_TC_speak p1 p2) (p_Md_speak p1 p2) I J A B 1 1 ∨ ∃ m, m < 8 ∧ p1 = nI m ∧ dbl (p_TC_speak p1 p2) (p_Md_speak p1 p2) I J A B (xu I (14 + m) 5 (p2 &&& (524287 : Int32))) (J) (xu (xu A 0 0 0) 17 m (p2 &&& (524287 : Int32))) (B) := by
  rcases ix_all p1 (n := 8) (by decide) with h | ⟨m, hm, rfl⟩
  · refine Or.inl ⟨fun post exc k => ne_0 h k, fun post k => ix_M0 h ⟨fun _ => ?_, fun hc => absurd rfl hc⟩⟩
    intro I4 e4
    subst e4
    exact ⟨fun _ => k, fun hc => absurd ((xu_s A 0 0 1).symm.trans hc) (by decide)⟩
  · refine Or.inr ⟨m, hm, rfl, fun post exc k => ne_1 hm (by decide) ?_, fun post k => ix_M1 hm (by decide) ⟨fun hc => absurd hc (by decide), fun _ => ?_⟩⟩
    · refine ⟨m, rfl, hm, fun _ e => ?_⟩
      subst e
      exact k
    · intro I4 e4
      subst e4
      refine ⟨fun hc => absurd (xu_s A 0 0 0) hc, fun _ => ?_⟩
      refine ⟨m, rfl, hm, fun _ e => ?_⟩
      subst e
      exact k
theorem d_fault {I : SI} {J : SJ} {A : SI} {B : SJ} (p1 : Int32) (p2 : Int64) : thr (p_TC_fault p1 p2) (p_Md_fault p1 p2) I J A B 1 1 ∨ ∃ m, m < 11 ∧ p1 = nI m ∧ dbl (p_TC_fault p1 p2) (p_Md_fault p1 p2) I J A B (I) (xv J 13 m (p2 &&& (18014398509481983 : Int64))) (xu A 0 0 0) (xv B 25 m (p2 &&& (18014398509481983 : Int64))) := by
  rcases ix_all p1 (n := 11) (by decide) with h | ⟨m, hm, rfl⟩
  · refine Or.inl ⟨fun post exc k => ne_0 h k, fun post k => ix_M0 h ⟨fun _ => ?_, fun hc => absurd rfl hc⟩⟩
    intro I4 e4
    subst e4
    exact ⟨fun _ => k, fun hc => absurd ((xu_s A 0 0 1).symm.trans hc) (by decide)⟩
  · refine Or.inr ⟨m, hm, rfl, fun post exc k => ne_1 hm (by decide) ?_, fun post k => ix_M1 hm (by decide) ⟨fun hc => absurd hc (by decide), fun _ => ?_⟩⟩
    · refine ⟨m, rfl, hm, fun _ e => ?_⟩
      subst e
      exact k
    · intro I4 e4
      subst e4
      refine ⟨fun hc => absurd (xu_s A 0 0 0) hc, fun _ => ?_⟩
      refine ⟨m, rfl, hm, fun _ e => ?_⟩
      subst e
      exact k
