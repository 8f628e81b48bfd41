/-! channels and the floor -/
theorem cl_ch {g : Nat} {I A : SI} (h : rCl g I A) {ch : Nat} (h0 : 0 < ch) (h4 : ch < 4) : I (38 + g) 3 = nI ch ↔ A 27 g = nI ch := by
  rcases h with ⟨z, z3, _, _⟩ | ⟨c, x, c0, c4, _, e1, e2, _⟩
  · rw [z, z3]
    have : ∀ c, c < 4 → 0 < c → (((-1 : Int32) = nI c) ↔ ((0 : Int32) = nI c)) := by decide +kernel
    exact this ch h4 h0
  · rw [e1, e2]
theorem cl_no {g : Nat} {I A : SI} (h : rCl g I A) : (I (38 + g) 3 = (-1 : Int32) ↔ A 27 g = 0) ∧ (A 27 g ≤ 0 ↔ A 27 g = 0) := by
  rcases h with ⟨z, z3, _, _⟩ | ⟨c, x, c0, c4, _, e1, e2, _⟩
  · rw [z, z3]
    decide
  · rw [e1, e2]
    have : ∀ c, c < 4 → 0 < c → ((nI c = (-1 : Int32) ↔ nI c = 0) ∧ (nI c ≤ 0 ↔ nI c = 0)) := by decide +kernel
    exact this c c4 c0
theorem c_on {I : SI} {J : SJ} {A : SI} (h : ∀ g, g < 4 → rCl g I A) {ch : Nat} (h0 : 0 < ch) (h4 : ch < 4) (k i : Nat) (hi : i + k = 4) (no : ∀ g, g < i → ¬ A 27 g = nI ch) :
    ∃ v : Int32, (∀ post : Int32 → SI → SJ → Prop, post v I J → p_Sw_groupOn_L2 (nI ch) post (k + 1) (nI i) I J) ∧ ((v = -1 ∧ ∀ g, g < 4 → ¬ A 27 g = nI ch) ∨ ∃ g, g < 4 ∧ v = nI g ∧ A 27 g = nI ch ∧ ∀ q, q < g → ¬ A 27 q = nI ch) := by
  induction k generalizing i with
  | zero =>
    have e : i = 4 := by omega
    subst e
    exact ⟨-1, fun post q => ⟨fun _ => q, fun hx => absurd (by decide) hx⟩, Or.inl ⟨rfl, no⟩⟩
  | succ k ih =>
    have c := cl_ch (h i (by omega)) h0 h4
    by_cases a : A 27 i = nI ch
    · exact ⟨nI i, fun post q => ⟨fun hx => absurd hx (nI_ge (b := 4) (by omega) (by decide)), fun _ => ⟨i, rfl, by omega, fun hx => absurd (c.mpr a) hx, fun _ => q⟩⟩, Or.inr ⟨i, by omega, rfl, a, no⟩⟩
    · obtain ⟨v, g, w⟩ := ih (i + 1) (by omega) (fun q hq e => by
        by_cases eq : q = i
        · subst eq
          exact a e
        · exact no q (by omega) e)
      refine ⟨v, fun post q => ⟨fun hx => absurd hx (nI_ge (b := 4) (by omega) (by decide)), fun _ => ⟨i, rfl, by omega, fun _ x3 e3 => ?_, fun hx => absurd (c.mp hx) a⟩⟩, w⟩
      rw [nI_1] at e3
      subst e3
      exact g post q
theorem s_groupOn {I : SI} {J : SJ} {A : SI} (h : ∀ g, g < 4 → rCl g I A) {ch : Nat} (h0 : 0 < ch) (h4 : ch < 4) :
    ∃ v : Int32, gi (p_Sw_groupOn (nI ch)) I J v I J ∧ ((v = -1 ∧ ∀ g, g < 4 → ¬ A 27 g = nI ch) ∨ ∃ g, g < 4 ∧ v = nI g ∧ A 27 g = nI ch ∧ ∀ q, q < g → ¬ A 27 q = nI ch) := by
  obtain ⟨v, g, w⟩ := c_on (J := J) h h0 h4 4 0 (by omega) (fun g hg => by omega)
  exact ⟨v, fun post q x1 e1 => by subst e1; exact ⟨5, g post q⟩, w⟩
theorem m_taken {A : SI} {B : SJ} {ch : Nat} (k i : Nat) (hi : i + k = 4) (s : Int32) (hs : ¬ s = 0 ↔ ∃ g, g < i ∧ A 27 g = nI ch) :
    ∃ s' : Int32, (¬ s' = 0 ↔ ∃ g, g < 4 ∧ A 27 g = nI ch) ∧ ∀ (post : Int32 → SI → SJ → Prop) (k34 : Int32 → Int32 → SI → SJ → Prop), k34 (nI ch) s' A B → p_Md_freeChannel_L11 post k34 (k + 1) (nI ch) s (nI i) A B := by
  induction k generalizing i s with
  | zero =>
    have e : i = 4 := by omega
    subst e
    exact ⟨s, hs, fun post k34 q => ⟨fun _ => q, fun hx => absurd (by decide) hx⟩⟩
  | succ k ih =>
    by_cases a : A 27 i = nI ch
    · obtain ⟨s', h1, h2⟩ := ih (i + 1) (by omega) 1 ⟨fun _ => ⟨i, by omega, a⟩, fun _ => by decide⟩
      refine ⟨s', h1, fun post k34 q => ⟨fun hx => absurd hx (nI_ge (b := 4) (by omega) (by decide)), fun _ => ⟨i, rfl, by omega, fun hx => absurd a hx, fun _ x6 e6 x5 e5 => ?_⟩⟩⟩
      rw [nI_1] at e5
      subst e6; subst e5
      exact h2 post k34 q
    · obtain ⟨s', h1, h2⟩ := ih (i + 1) (by omega) s (by
        rw [hs]
        constructor
        · intro ⟨g, hg, e⟩
          exact ⟨g, by omega, e⟩
        · intro ⟨g, hg, e⟩
          by_cases eq : g = i
          · subst eq
            exact absurd e a
          · exact ⟨g, by omega, e⟩)
      refine ⟨s', h1, fun post k34 q => ⟨fun hx => absurd hx (nI_ge (b := 4) (by omega) (by decide)), fun _ => ⟨i, rfl, by omega, fun _ x5 e5 => ?_, fun hx => absurd hx a⟩⟩⟩
      rw [nI_1] at e5
      subst e5
      exact h2 post k34 q
theorem y_free1 {I : SI} {J : SJ} {A : SI} {B : SJ} (h : ∀ g, g < 4 → rCl g I A) (k i : Nat) (hi : i + k = 4) (h0 : 0 < i) :
    ∃ v w : Int32, (∀ post : Int32 → SI → SJ → Prop, post v I J → p_Sw_freeChannel_L2 post (k + 1) (nI i) I J) ∧ (∀ post : Int32 → SI → SJ → Prop, post w A B → p_Md_freeChannel_L2 post (k + 1) (nI i) A B) ∧ ((v = -1 ∧ w = 0) ∨ ∃ ch, 0 < ch ∧ ch < 4 ∧ v = nI ch ∧ w = nI ch) := by
  induction k generalizing i with
  | zero =>
    have e : i = 4 := by omega
    subst e
    exact ⟨-1, 0, fun post q => ⟨fun _ => q, fun hx => absurd (by decide) hx⟩, fun post q => ⟨fun _ => q, fun hx => absurd (by decide) hx⟩, Or.inl ⟨rfl, rfl⟩⟩
  | succ k ih =>
    obtain ⟨u, g1, u1⟩ := s_groupOn (J := J) h h0 (show i < 4 by omega)
    obtain ⟨s, s1, s2⟩ := m_taken (A := A) (B := B) (ch := i) 4 0 (by omega) 0 ⟨fun hx => absurd rfl hx, fun ⟨g, hg, _⟩ => by omega⟩
    rcases u1 with ⟨e, no⟩ | ⟨g, hg, e, a, _⟩
    · refine ⟨nI i, nI i, fun post q => ⟨fun hx => absurd hx (nI_nlt (b := i) (a := 3) (by omega) (by decide)), fun _ => g1 _ ⟨fun hx => absurd e hx, fun _ => q⟩⟩, fun post q => ⟨fun hx => absurd hx (nI_ge (b := 4) (by omega) (by decide)), fun _ x2 e2 x3 e3 => ?_⟩, Or.inr ⟨i, h0, by omega, rfl, rfl⟩⟩
      subst e2; subst e3
      refine ⟨5, s2 _ _ ⟨fun hx => ?_, fun _ => q⟩⟩
      obtain ⟨g, hg, a⟩ := s1.mp hx
      exact absurd a (no g hg)
    · obtain ⟨v, w, g3, g4, vw⟩ := ih (i + 1) (by omega) (by omega)
      have ne : ¬ u = (-1 : Int32) := by
        rw [e]
        have : ∀ q, q < 4 → ¬ nI q = (-1 : Int32) := by decide +kernel
        exact this g hg
      refine ⟨v, w, fun post q => ⟨fun hx => absurd hx (nI_nlt (b := i) (a := 3) (by omega) (by decide)), fun _ => g1 _ ⟨fun _ x5 e5 => ?_, fun hx => absurd hx ne⟩⟩, fun post q => ⟨fun hx => absurd hx (nI_ge (b := 4) (by omega) (by decide)), fun _ x2 e2 x3 e3 => ?_⟩, vw⟩
      · rw [nI_1] at e5
        subst e5
        exact g3 post q
      · subst e2; subst e3
        refine ⟨5, s2 _ _ ⟨fun _ x e => ?_, fun hx => absurd hx (s1.mpr ⟨g, hg, a⟩)⟩⟩
        rw [nI_1] at e
        subst e
        exact g4 post q
theorem y_free {I : SI} {J : SJ} {A : SI} {B : SJ} (h : ∀ g, g < 4 → rCl g I A) :
    ∃ v w : Int32, gi p_Sw_freeChannel I J v I J ∧ gi p_Md_freeChannel A B w A B ∧ ((v = -1 ∧ w = 0) ∨ ∃ ch, 0 < ch ∧ ch < 4 ∧ v = nI ch ∧ w = nI ch) := by
  obtain ⟨v, w, g1, g2, e⟩ := y_free1 (J := J) (B := B) h 3 1 (by omega) (by omega)
  exact ⟨v, w, fun post q x1 e1 => by subst e1; exact ⟨4, g1 post q⟩, fun post q x1 e1 => by subst e1; exact ⟨4, g2 post q⟩, e⟩
/-- who comes next -/
theorem y_best1 {I : SI} {J : SJ} {A : SI} {B : SJ} {g n : Nat} (hg : g < 4) (hn : n ≤ 6) (n1 : I (38 + g) 1 = nI n) (n2 : A 31 g = nI n) (n3 : ∀ k, k < n → ∃ b, b < 32 ∧ I (42 + g) k = nI b ∧ A 30 (6 * g + k) = nI b) (k i t : Nat) (hi : i + k = n) (ht : t < n) :
    ∃ u, u < n ∧ (∀ post : Int32 → SI → SJ → Prop, post (nI u) I J → p_Gr_firstOfHighest_L4 g post (k + 1) (nI t) (nI i) I J) ∧ (∀ (post : SI → SJ → Prop) (k92 : Int32 → Int32 → SI → SJ → Prop) (v2 : Int32), k92 v2 (nI u) A B → p_Md_serve_L42 (nI g) post k92 (k + 1) v2 (nI t) (nI i) A B) := by
  have le : nI n ≤ nI n := (nI_leI (a := n) (b := n) (by omega) (by omega)).mpr (Nat.le_refl _)
  induction k generalizing i t with
  | zero =>
    have e : i = n := by omega
    subst e
    exact ⟨t, ht, fun post q => ⟨fun _ => q, fun hx => absurd (by rw [n1]; exact le) hx⟩, fun post k92 v2 q => ⟨g, rfl, hg, fun _ => q, fun hx => absurd (by rw [n2]; exact le) hx⟩⟩
  | succ k ih =>
    obtain ⟨b, hb, b1, b2⟩ := n3 i (by omega)
    obtain ⟨d, hd, d1, d2⟩ := n3 t ht
    have c1 : ¬ I (38 + g) 1 ≤ nI i := by rw [n1]; exact nI_ge (by omega) (by omega)
    have c2 : ¬ A 31 g ≤ nI i := by rw [n2]; exact nI_ge (by omega) (by omega)
    have m1 : ((6 : Int32) * nI g) + nI i = nI (6 * g + i) := by rw [show (6 : Int32) * nI g = nI (6 * g) from pk_mul 6 g, nI_add]
    have m2 : ((6 : Int32) * nI g) + nI t = nI (6 * g + t) := by rw [show (6 : Int32) * nI g = nI (6 * g) from pk_mul 6 g, nI_add]
    by_cases a : (nI b) &&& (3 : Int32) ≤ (nI d) &&& (3 : Int32)
    · obtain ⟨u, hu, g1, g2⟩ := ih (i + 1) t (by omega) ht
      refine ⟨u, hu, fun post q => ⟨fun hx => absurd hx c1, fun _ => ⟨i, rfl, by omega, t, rfl, by omega, fun _ x e => ?_, fun hx => absurd (by rw [b1, d1]; exact a) hx⟩⟩, fun post k92 v2 q => ⟨g, rfl, hg, fun hx => absurd hx c2, fun _ => ⟨6 * g + i, m1, by omega, 6 * g + t, m2, by omega, fun _ x e => ?_, fun hx => absurd (by rw [b2, d2]; exact a) hx⟩⟩⟩
      · rw [nI_1] at e
        subst e
        exact g1 post q
      · rw [nI_1] at e
        subst e
        exact g2 post k92 v2 q
    · obtain ⟨u, hu, g1, g2⟩ := ih (i + 1) i (by omega) (by omega)
      refine ⟨u, hu, fun post q => ⟨fun hx => absurd hx c1, fun _ => ⟨i, rfl, by omega, t, rfl, by omega, fun hx => absurd (by rw [b1, d1] at hx; exact hx) a, fun _ x e => ?_⟩⟩, fun post k92 v2 q => ⟨g, rfl, hg, fun hx => absurd hx c2, fun _ => ⟨6 * g + i, m1, by omega, 6 * g + t, m2, by omega, fun hx => absurd (by rw [b2, d2] at hx; exact hx) a, fun _ x e => ?_⟩⟩⟩
      · rw [nI_1] at e
        subst e
        exact g1 post q
      · rw [nI_1] at e
        subst e
        exact g2 post k92 v2 q
/-- the row closes up -/
theorem m_row {g n : Nat} (hg : g < 4) (hn : n < 6) {B : SJ} (d i : Nat) (hi : i + d = n) (A : SI) (eA : A 31 g = nI n) :
    ∃ A', (∀ o, o ≠ 30 → A' o = A o) ∧ (∀ k, 6 * g + i ≤ k → k < 6 * g + n → A' 30 k = A 30 (k + 1)) ∧ (∀ k, k < 6 * g + i ∨ 6 * g + n ≤ k → A' 30 k = A 30 k) ∧ (∀ (post : SI → SJ → Prop) (v2 : Int32), (p_Md_control (9 : Int32) (A' 28 g) (nI g) v2 (0 : Int32) (fun r32 I30 J31 => p_Md_inMembersCells (nI g) r32 (fun I33 J34 => post I33 J34) I30 J31) A' B) → p_Md_serve_L147 (nI g) post (d + 1) v2 (nI i) A B) := by
  induction d generalizing A i with
  | zero =>
    refine ⟨A, fun _ _ => rfl, fun k h1 h2 => by omega, fun _ _ => rfl, fun post v2 k => ⟨g, rfl, hg, fun _ => ⟨g, rfl, hg, k⟩, fun hx => absurd ?_ hx⟩⟩
    rw [eA, show n = i by omega]
    exact (nI_leI (a := i) (b := i) (by omega) (by omega)).mpr (Nat.le_refl _)
  | succ d ih =>
    obtain ⟨A', f1, f2, f3, g'⟩ := ih (i + 1) (by omega) (xu A 30 (6 * g + i) (A 30 (6 * g + i + 1))) (by rw [xu_o _ _ _ (by decide)]; exact eA)
    refine ⟨A', fun o ho => ?_, fun k h1 h2 => ?_, fun k h1 => ?_, fun post v2 k => ⟨g, rfl, hg, fun hx => ?_, fun _ => ⟨6 * g + i + 1, ?_, by omega, 6 * g + i, ?_, by omega, fun I4 e4 x5 e5 => ?_⟩⟩⟩
    · rw [f1 o ho, xu_o _ _ _ ho]
    · by_cases e : k = 6 * g + i
      · subst e
        rw [f3 _ (by omega), xu_s]
      · rw [f2 k (by omega) h2, xu_k _ _ _ (by omega)]
    · rw [f3 k (by omega), xu_k _ _ _ (by omega)]
    · rw [eA] at hx; exact absurd hx (nI_ge (by omega) (by omega))
    · rw [show (6 : Int32) * nI g = nI (6 * g) from pk_mul 6 g, nI_add, nI_1]
    · rw [show (6 : Int32) * nI g = nI (6 * g) from pk_mul 6 g, nI_add]
    · rw [nI_1] at e5
      subst e4; subst e5
      exact g' post v2 k
