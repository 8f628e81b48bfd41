/-! a turn ends -/
theorem y_end1 {J B : SJ} {T : Int32} (p1 p1' : Int32) (k i : Nat) (hi : i + k = 4) (I A : SI) (eT : A 0 36 = T) (h : SW I A) :
    ∃ I' A', (∀ post : SI → SJ → Prop, post I' J → p_Sw_endTurn_L55 p1 (T / 4) post (k + 1) (nI i) I J) ∧ (∀ post : SI → SJ → Prop, post A' B → p_Md_releaseCall_L45 p1' post (k + 1) (nI i) A B) ∧ SW I' A' ∧ fB I I' A A' := by
  induction k generalizing i I A with
  | zero =>
    have e : i = 4 := by omega
    subst e
    exact ⟨I, A, fun post q => ⟨fun _ => q, fun hx => absurd (by decide) hx⟩, fun post q => ⟨fun _ => q, fun hx => absurd (by decide) hx⟩, h, fB.refl I A⟩
  | succ k ih =>
    have hi4 : i < 4 := by omega
    have no := cl_no (h.2.1 i hi4).2.2
    by_cases z : A 27 i = 0
    · obtain ⟨I1, A1, g1, g2, w, f⟩ := y_serve (J := J) (B := B) hi4 h
      rw [eT] at g1
      obtain ⟨I2, A2, g3, g4, w2, f2⟩ := ih (i + 1) (by omega) I1 A1 (by rw [f.2 0 (by decide)]; exact eT) w
      refine ⟨I2, A2, fun post q => ⟨fun hx => absurd hx (nI_ge (b := 4) (by omega) (by decide)), fun _ => ⟨i, rfl, hi4, fun _ => ⟨fun hx => absurd rfl hx, fun _ => g1 _ (fun x e => ?_)⟩, fun hx => absurd (no.1.mpr z) hx⟩⟩, fun post q => ⟨fun hx => absurd hx (nI_ge (b := 4) (by omega) (by decide)), fun _ => ⟨i, rfl, hi4, fun hx => absurd z hx, fun _ => g2 _ (fun x e => ?_)⟩⟩, w2, f.trans f2⟩
      · rw [nI_1] at e
        subst e
        exact g3 post q
      · rw [nI_1] at e
        subst e
        exact g4 post q
    · obtain ⟨I2, A2, g3, g4, w2, f2⟩ := ih (i + 1) (by omega) I A eT h
      refine ⟨I2, A2, fun post q => ⟨fun hx => absurd hx (nI_ge (b := 4) (by omega) (by decide)), fun _ => ⟨i, rfl, hi4, fun hx => absurd (no.1.mp hx) z, fun _ => ⟨fun _ x e => ?_, fun hx => absurd hx (by decide)⟩⟩⟩, fun post q => ⟨fun hx => absurd hx (nI_ge (b := 4) (by omega) (by decide)), fun _ => ⟨i, rfl, hi4, fun _ x e => ?_, fun hx => absurd hx z⟩⟩, w2, f2⟩
      · rw [nI_1] at e
        subst e
        exact g3 post q
      · rw [nI_1] at e
        subst e
        exact g4 post q
theorem y_end {I : SI} {J : SJ} {A : SI} {B : SJ} {g ch : Nat} (hg : g < 4) (h0 : 0 < ch) (h4 : ch < 4) (ec : A 27 g = nI ch) (h : SW I A) :
    ∃ I' A', go (p_Sw_endTurn (nI g) (A 0 36 / 4)) I J I' J ∧ go (p_Md_releaseCall (nI g)) A B A' B ∧ SW I' A' ∧ fB I I' A A' := by
  obtain ⟨r0, ⟨n, hn, n1, n2, n3⟩, r2⟩ := h.2.1 g hg
  have ci := (cl_ch r2 h0 h4).mpr ec
  by_cases z : n = 0
  · subst z
    let I3 : SI := xu (xu (xu I (38 + g) 3 (-1)) (38 + g) 4 (-1)) (38 + g) 5 (-1)
    let A3 : SI := xu A 27 g 0
    have i3 : ∀ o, o ≠ 38 + g → I3 o = I o := fun o ho => by
      show xu (xu (xu I (38 + g) 3 (-1)) (38 + g) 4 (-1)) (38 + g) 5 (-1) o = I o
      rw [xu_o _ _ _ ho, xu_o _ _ _ ho, xu_o _ _ _ ho]
    have i3k : ∀ k, k < 3 → I3 (38 + g) k = I (38 + g) k := fun k hk => by
      show xu (xu (xu I (38 + g) 3 (-1)) (38 + g) 4 (-1)) (38 + g) 5 (-1) (38 + g) k = I (38 + g) k
      rw [xu_k _ _ _ (by omega), xu_k _ _ _ (by omega), xu_k _ _ _ (by omega)]
    have a3 : ∀ o, o ≠ 27 → A3 o = A o := fun o ho => xu_o _ _ _ ho
    have w : SW I3 A3 := by
      refine h.grp hg (fun o ho => i3 o (by omega)) (fun o ho => a3 o (by omega)) (fun q hq e => ⟨i3 _ (by omega), i3 _ (by omega)⟩) (fun o q hq e ho => ?_) (fun k hk => by rw [a3 30 (by decide)]) ⟨?_, ⟨0, hn, ?_, ?_, fun k hk => by omega⟩, Or.inl ⟨xu_s _ _ _ _, ?_, ?_, xu_s _ _ _ _⟩⟩
      · by_cases eo : o = 27
        · subst eo
          exact xu_k _ _ _ e
        · rw [a3 o eo]
      · rw [i3k 2 (by decide), a3 26 (by decide)]
        exact r0
      · rw [i3k 1 (by decide)]
        exact n1
      · rw [a3 31 (by decide)]
        exact n2
      · show xu (xu (xu I (38 + g) 3 (-1)) (38 + g) 4 (-1)) (38 + g) 5 (-1) (38 + g) 3 = -1
        rw [xu_k _ _ _ (by decide), xu_k _ _ _ (by decide), xu_s]
      · show xu (xu (xu I (38 + g) 3 (-1)) (38 + g) 4 (-1)) (38 + g) 5 (-1) (38 + g) 4 = -1
        rw [xu_k _ _ _ (by decide), xu_s]
    have fr : fB I I3 A A3 := ⟨fun o ho => i3 o (by omega), fun o ho => a3 o (by omega)⟩
    obtain ⟨I4, A4, g1, g2, w4, f4⟩ := y_mem (J := J) (B := B) (g := g) (b := blk 10 0 (4 * g + ch) 0) hg (blk_lt (by omega) (by omega) (by omega) (by omega)) w
    obtain ⟨I5, A5, g3, g4, w5, f5⟩ := y_end1 (J := J) (B := B) (nI g) (nI g) 4 0 (by omega) I4 A4 (by rw [f4.2 0 (by decide), a3 0 (by decide)]) w4
    refine ⟨I5, A5, fun post q => ⟨g, rfl, hg, fun _ => ⟨g, rfl, hg, fun x3 e3 => ⟨g, rfl, hg, fun I6 e6 I7 e7 I8 e8 => ?_⟩⟩, fun hx => absurd ?_ hx⟩, fun post q => ⟨g, rfl, hg, fun _ => ⟨g, rfl, hg, fun x3 e3 => ⟨g, rfl, hg, fun I6 e6 => ?_⟩⟩, fun hx => absurd ?_ hx⟩, w5, (fr.trans f4.fB).trans f5⟩
    · subst e6; subst e7
      have e8' : I8 = I3 := e8
      subst e8'
      rw [ci] at e3
      subst e3
      exact s_Bk_of (k := 10) (m := 0) (r := 0) (by omega) (by omega) hg h4 (by omega) (and_n3 h4) (g1 _ (fun x e => by subst e; exact ⟨5, g3 post q⟩))
    · rw [n1]; decide
    · have e6' : I6 = A3 := e6
      subst e6'
      rw [ec] at e3
      subst e3
      exact s_Md_control (k := 10) (m := 0) (r := 0) (by omega) (by omega) hg h4 (by omega) (g2 _ (fun x e => by subst e; exact ⟨5, g4 post q⟩))
    · rw [n2]; decide
  · obtain ⟨I1, A1, g1, g2, w, f⟩ := y_serve (J := J) (B := B) hg h
    refine ⟨I1, A1, fun post q => ⟨g, rfl, hg, fun hx => ?_, fun _ => g1 post q⟩, fun post q => ⟨g, rfl, hg, fun hx => ?_, fun _ => g2 post q⟩, w, f⟩
    · rw [n1] at hx
      exact absurd hx (nI_nle (by omega) (by omega))
    · rw [n2] at hx
      exact absurd hx (nI_nle (by omega) (by omega))
/-! a request -/
def inR (A : SI) (g m i n : Nat) : Prop := ∃ k, i ≤ k ∧ k < n ∧ xsr (A 30 (6 * g + k)) 2 = nI m
theorem c_inRow {I : SI} {J : SJ} {A : SI} {g m n : Nat} (hn : n ≤ 6) (n1 : I (38 + g) 1 = nI n) (n3 : ∀ k, k < n → ∃ b, b < 32 ∧ I (42 + g) k = nI b ∧ A 30 (6 * g + k) = nI b) (k i : Nat) (hi : i + k = n) :
    ∃ v : Int32, (¬ v = 0 ↔ inR A g m i n) ∧ ∀ post : Int32 → SI → SJ → Prop, post v I J → p_Gr_isInRow_L2 g (nI m) post (k + 1) (nI i) I J := by
  induction k generalizing i with
  | zero =>
    have e : i = n := by omega
    subst e
    exact ⟨0, ⟨fun hx => absurd rfl hx, fun ⟨k, h1, h2, _⟩ => by omega⟩, fun post q => ⟨fun _ => q, fun hx => absurd (by rw [n1]; exact (nI_leI (a := i) (b := i) (by omega) (by omega)).mpr (Nat.le_refl _)) hx⟩⟩
  | succ k ih =>
    obtain ⟨b, hb, b1, b2⟩ := n3 i (by omega)
    have c1 : ¬ I (38 + g) 1 ≤ nI i := by rw [n1]; exact nI_ge (by omega) (by omega)
    have e2 : xsu (I (42 + g) i) 2 = nI (b / 4) := by rw [b1, su_2 (by omega)]
    have e3 : xsr (A 30 (6 * g + i)) 2 = nI (b / 4) := by rw [b2, sr_2 (by omega)]
    by_cases a : nI (b / 4) = nI m
    · exact ⟨1, ⟨fun _ => ⟨i, Nat.le_refl _, by omega, e3.trans a⟩, fun _ => by decide⟩, fun post q => ⟨fun hx => absurd hx c1, fun _ => ⟨i, rfl, by omega, fun hx => absurd (e2.trans a) hx, fun _ => q⟩⟩⟩
    · obtain ⟨v, h1, h2⟩ := ih (i + 1) (by omega)
      refine ⟨v, ?_, fun post q => ⟨fun hx => absurd hx c1, fun _ => ⟨i, rfl, by omega, fun _ x e => ?_, fun hx => absurd (e2.symm.trans hx) a⟩⟩⟩
      · rw [h1]
        constructor
        · intro ⟨k, p1, p2, p3⟩
          exact ⟨k, by omega, p2, p3⟩
        · intro ⟨k, p1, p2, p3⟩
          by_cases eq : k = i
          · subst eq
            exact absurd (e3.symm.trans p3) a
          · exact ⟨k, by omega, p2, p3⟩
      · rw [nI_1] at e
        subst e
        exact h2 post q
theorem m_inRow {A : SI} {B : SJ} {g m n : Nat} (hg : g < 4) (hn : n ≤ 6) (n2 : A 31 g = nI n) (p3 : Int32) (k i : Nat) (hi : i + k = n) (s : Int32) :
    ∃ s' : Int32, (¬ s' = 0 ↔ ¬ s = 0 ∨ inR A g m i n) ∧ ∀ (post : SI → SJ → Prop) (k81 : Int32 → SI → SJ → Prop), k81 s' A B → p_Md_requested_L43 (nI m) (nI g) p3 post k81 (k + 1) s (nI i) A B := by
  induction k generalizing i s with
  | zero =>
    have e : i = n := by omega
    subst e
    exact ⟨s, ⟨fun hx => Or.inl hx, fun hx => hx.resolve_right (fun ⟨k, h1, h2, _⟩ => by omega)⟩, fun post k81 q => ⟨g, rfl, hg, fun _ => q, fun hx => absurd (by rw [n2]; exact (nI_leI (a := i) (b := i) (by omega) (by omega)).mpr (Nat.le_refl _)) hx⟩⟩
  | succ k ih =>
    have c2 : ¬ A 31 g ≤ nI i := by rw [n2]; exact nI_ge (by omega) (by omega)
    have m1 : ((6 : Int32) * nI g) + nI i = nI (6 * g + i) := by rw [show (6 : Int32) * nI g = nI (6 * g) from pk_mul 6 g, nI_add]
    by_cases a : xsr (A 30 (6 * g + i)) 2 = nI m
    · obtain ⟨s', h1, h2⟩ := ih (i + 1) (by omega) 1
      refine ⟨s', ?_, fun post k81 q => ⟨g, rfl, hg, fun hx => absurd hx c2, fun _ => ⟨6 * g + i, m1, by omega, fun hx => absurd a hx, fun _ x7 e7 x6 e6 => ?_⟩⟩⟩
      · rw [h1]
        exact ⟨fun _ => Or.inr ⟨i, Nat.le_refl _, by omega, a⟩, fun _ => Or.inl (by decide)⟩
      · rw [nI_1] at e6
        subst e7; subst e6
        exact h2 post k81 q
    · obtain ⟨s', h1, h2⟩ := ih (i + 1) (by omega) s
      refine ⟨s', ?_, fun post k81 q => ⟨g, rfl, hg, fun hx => absurd hx c2, fun _ => ⟨6 * g + i, m1, by omega, fun _ x6 e6 => ?_, fun hx => absurd hx a⟩⟩⟩
      · rw [h1]
        constructor
        · intro hx
          rcases hx with hx | ⟨k, p1, p2, p3⟩
          · exact Or.inl hx
          · exact Or.inr ⟨k, by omega, p2, p3⟩
        · intro hx
          rcases hx with hx | ⟨k, p1, p2, p3⟩
          · exact Or.inl hx
          · by_cases eq : k = i
            · subst eq
              exact absurd p3 a
            · exact Or.inr ⟨k, by omega, p2, p3⟩
      · rw [nI_1] at e6
        subst e6
        exact h2 post k81 q
theorem y_join {I : SI} {J : SJ} {A : SI} {B : SJ} {g m l : Nat} (hg : g < 4) (hm : m < 8) (hl : l < 4) (h : SW I A) :
    ∃ I' A', go (p_Gr_joinRow g (nI m) (nI l)) I J I' J ∧ (∀ post : SI → SJ → Prop, p_Md_requested_132 (nI m) (nI g) (nI l) post A' B → ((A 27 g ≤ (0) → p_Md_requested_37 (nI m) (nI g) (nI l) post A B) ∧ (¬ A 27 g ≤ (0) → ∃ j27, nI g = nI j27 ∧ j27 < 4 ∧ ((¬ A (28) j27 = nI m → p_Md_requested_37 (nI m) (nI g) (nI l) post A B) ∧ (A (28) j27 = nI m → p_Md_requested_38 (nI m) (nI g) (nI l) post (1 : Int32) A B))))) ∧ SW I' A' ∧ fB I I' A A' := by
  obtain ⟨r0, ⟨n, hn, n1, n2, n3⟩, r2⟩ := h.2.1 g hg
  have no := cl_no r2
  have hol : I (38 + g) 4 = nI m ↔ ¬ A 27 g = 0 ∧ A 28 g = nI m := by
    rcases r2 with ⟨z, z3, z4, z5⟩ | ⟨c, x, c0, c4, hx, e1, e2, e3, e4, _⟩
    · rw [z4]
      have : ∀ q, q < 8 → ¬ (-1 : Int32) = nI q := by decide +kernel
      exact ⟨fun e => absurd e (this m hm), fun e => absurd z e.1⟩
    · rw [e4, e3, e1]
      exact ⟨fun e => ⟨nI_ne0 c0 (by omega), e⟩, fun e => e.2⟩
  obtain ⟨v, v1, g1⟩ := c_inRow (J := J) (m := m) hn n1 n3 n 0 (by omega)
  -- the reference's flag at the start
  have mdl : ∀ (s : Int32), (¬ s = 0 ↔ I (38 + g) 4 = nI m) → ∃ s' : Int32, (¬ s' = 0 ↔ ¬ s = 0 ∨ inR A g m 0 n) ∧ ∀ (post : SI → SJ → Prop), (((¬ s' = (0) → p_Md_requested_132 (nI m) (nI g) (nI l) post A B) ∧ (s' = (0) → ∃ j17, nI g = nI j17 ∧ j17 < 4 ∧ (((6 : Int32) ≤ (A (31) j17) → p_Md_requested_132 (nI m) (nI g) (nI l) post A B) ∧ (¬ (6 : Int32) ≤ (A (31) j17) → ∃ j18, nI g = nI j18 ∧ j18 < 4 ∧ ∃ j19, ((6 : Int32) * nI g) + (A (31) j18) = nI j19 ∧ j19 < 24 ∧ ∀ I20, I20 = xu A (30) j19 (((4 : Int32) * nI m) + nI l) → ∃ j21, nI g = nI j21 ∧ j21 < 4 ∧ ∃ j22, nI g = nI j22 ∧ j22 < 4 ∧ ∀ I23, I23 = xu I20 (31) j22 ((I20 (31) j21) + (1 : Int32)) → p_Md_requested_132 (nI m) (nI g) (nI l) post I23 B))))) → p_Md_requested_38 (nI m) (nI g) (nI l) post s A B := by
    intro s _
    obtain ⟨s', s1, s2⟩ := m_inRow (A := A) (B := B) (m := m) hg hn n2 (nI l) n 0 (by omega) s
    exact ⟨s', s1, fun post q x3 e3 => by subst e3; exact ⟨n + 1, s2 post _ q⟩⟩
  -- all roads to the flag
  have road : ∃ s' : Int32, (¬ s' = 0 ↔ I (38 + g) 4 = nI m ∨ inR A g m 0 n) ∧ ∀ (post : SI → SJ → Prop), (((¬ s' = (0) → p_Md_requested_132 (nI m) (nI g) (nI l) post A B) ∧ (s' = (0) → ∃ j17, nI g = nI j17 ∧ j17 < 4 ∧ (((6 : Int32) ≤ (A (31) j17) → p_Md_requested_132 (nI m) (nI g) (nI l) post A B) ∧ (¬ (6 : Int32) ≤ (A (31) j17) → ∃ j18, nI g = nI j18 ∧ j18 < 4 ∧ ∃ j19, ((6 : Int32) * nI g) + (A (31) j18) = nI j19 ∧ j19 < 24 ∧ ∀ I20, I20 = xu A (30) j19 (((4 : Int32) * nI m) + nI l) → ∃ j21, nI g = nI j21 ∧ j21 < 4 ∧ ∃ j22, nI g = nI j22 ∧ j22 < 4 ∧ ∀ I23, I23 = xu I20 (31) j22 ((I20 (31) j21) + (1 : Int32)) → p_Md_requested_132 (nI m) (nI g) (nI l) post I23 B))))) → ((A 27 g ≤ (0) → p_Md_requested_37 (nI m) (nI g) (nI l) post A B) ∧ (¬ A 27 g ≤ (0) → ∃ j27, nI g = nI j27 ∧ j27 < 4 ∧ ((¬ A (28) j27 = nI m → p_Md_requested_37 (nI m) (nI g) (nI l) post A B) ∧ (A (28) j27 = nI m → p_Md_requested_38 (nI m) (nI g) (nI l) post (1 : Int32) A B)))) := by
    by_cases a : I (38 + g) 4 = nI m
    · obtain ⟨s', s1, s2⟩ := mdl 1 ⟨fun _ => a, fun _ => by decide⟩
      refine ⟨s', by rw [s1]; exact ⟨fun _ => Or.inl a, fun _ => Or.inl (by decide)⟩, fun post q => ⟨fun hx => absurd (no.2.mp hx) (hol.mp a).1, fun _ => ⟨g, rfl, hg, fun hx => absurd (hol.mp a).2 hx, fun _ => s2 post q⟩⟩⟩
    · obtain ⟨s', s1, s2⟩ := mdl 0 ⟨fun hx => absurd rfl hx, fun e => absurd e a⟩
      refine ⟨s', by rw [s1]; exact ⟨fun hx => hx.elim (fun z => absurd rfl z) Or.inr, fun hx => hx.elim (fun z => absurd z a) Or.inr⟩, fun post q => ⟨fun _ => s2 post q, fun hz => ⟨g, rfl, hg, fun _ => s2 post q, fun hx => absurd (hol.mpr ⟨fun e => hz (no.2.mpr e), hx⟩) a⟩⟩⟩
  obtain ⟨s', s1, road⟩ := road
  by_cases t : I (38 + g) 4 = nI m ∨ inR A g m 0 n
  · -- it is there
    refine ⟨I, A, fun post q => ⟨fun _ => q, fun n4 => ⟨fun _ => q, fun _ x e => ?_⟩⟩, fun post q => road post ⟨fun _ => q, fun hx => absurd hx (s1.mpr t)⟩, h, fB.refl I A⟩
    subst e
    exact ⟨n + 1, g1 _ ⟨fun _ => q, fun hx => absurd hx (v1.mpr (t.resolve_left n4))⟩⟩
  · have t1 : ¬ I (38 + g) 4 = nI m := fun e => t (Or.inl e)
    have v0 : v = 0 := Classical.byContradiction (fun e => t (Or.inr (v1.mp e)))
    have s0 : s' = 0 := Classical.byContradiction (fun e => t (s1.mp e))
    by_cases z : n = 6
    · subst z
      have l6 : (6 : Int32) ≤ nI 6 := by decide
      exact ⟨I, A, fun post q => ⟨fun _ => q, fun _ => ⟨fun _ => q, fun hx => absurd (by rw [n1]; exact l6) hx⟩⟩, fun post q => road post ⟨fun hx => absurd s0 hx, fun _ => ⟨g, rfl, hg, fun _ => q, fun hx => absurd (by rw [n2]; exact l6) hx⟩⟩, h, fB.refl I A⟩
    · have hn6 : n < 6 := by omega
      have nl : ¬ (6 : Int32) ≤ nI n := nI_ge (b := 6) hn6 (by decide)
      have ev : ((4 : Int32) * nI m) + nI l = nI (4 * m + l) := by rw [show (4 : Int32) * nI m = nI (4 * m) from pk_mul 4 m, nI_add]
      have o42 : 38 + g ≠ 42 + g := by omega
      have ii : ∀ o, o ≠ 38 + g → o ≠ 42 + g → xu (xu I (42 + g) n (nI (4 * m + l))) (38 + g) 1 (nI (n + 1)) o = I o := fun o h1 h2 => by rw [xu_o _ _ _ h1, xu_o _ _ _ h2]
      have aa : ∀ o, o ≠ 30 → o ≠ 31 → xu (xu A 30 (6 * g + n) (nI (4 * m + l))) 31 g (nI (n + 1)) o = A o := fun o h1 h2 => by rw [xu_o _ _ _ h2, xu_o _ _ _ h1]
      refine ⟨xu (xu I (42 + g) n (nI (4 * m + l))) (38 + g) 1 (nI (n + 1)), xu (xu A 30 (6 * g + n) (nI (4 * m + l))) 31 g (nI (n + 1)), fun post q => ⟨fun hx => absurd hx t1, fun _ => ⟨fun hx => absurd (by rw [n1] at hx; exact hx) nl, fun _ x e => ?_⟩⟩, fun post q => road post ⟨fun hx => absurd s0 hx, fun _ => ⟨g, rfl, hg, fun hx => absurd (by rw [n2] at hx; exact hx) nl, fun _ => ⟨g, rfl, hg, 6 * g + n, ?_, by omega, fun I20 e20 => ⟨g, rfl, hg, g, rfl, hg, fun I23 e23 => ?_⟩⟩⟩⟩, ?_, ⟨fun o ho => ii o (by omega) (by omega), fun o ho => aa o (by omega) (by omega)⟩⟩
      · subst e
        refine ⟨n + 1, g1 _ ⟨fun hx => absurd v0 hx, fun _ => ⟨n, n1, hn6, fun I5 e5 I6 e6 => ?_⟩⟩⟩
        rw [ev] at e5
        subst e5
        rw [xu_o _ _ _ o42, n1, nI_1] at e6
        subst e6
        exact q
      · rw [n2, show (6 : Int32) * nI g = nI (6 * g) from pk_mul 6 g, nI_add]
      · rw [ev] at e20
        subst e20
        rw [xu_o _ _ _ (show 31 ≠ 30 by decide), n2, nI_1] at e23
        subst e23
        exact q
      · refine h.grp hg (fun o ho => ii o (by omega) (by omega)) (fun o ho => aa o (by omega) (by omega)) (fun p hp e => ⟨ii _ (by omega) (by omega), ii _ (by omega) (by omega)⟩) (fun o p hp e ho => ?_) (fun k hk => ?_) ⟨?_, ⟨n + 1, by omega, xu_s _ _ _ _, xu_s _ _ _ _, fun k hk => ?_⟩, ?_⟩
        · by_cases eo : o = 31
          · subst eo
            rw [xu_k _ _ _ e, xu_o _ _ _ (by decide)]
          · rw [aa o ho eo]
        · rw [xu_o _ _ _ (by decide), xu_k _ _ _ (by omega)]
        · rw [xu_k _ _ _ (by decide), xu_o _ _ _ o42, aa 26 (by decide) (by decide)]
          exact r0
        · rw [xu_o _ _ _ (show 42 + g ≠ 38 + g by omega), xu_o _ _ _ (show 30 ≠ 31 by decide)]
          by_cases e : k = n
          · subst e
            exact ⟨4 * m + l, by omega, xu_s _ _ _ _, xu_s _ _ _ _⟩
          · rw [xu_k _ _ _ e, xu_k _ _ _ (by omega)]
            exact n3 k (by omega)
        · unfold rCl
          rw [aa 27 (by decide) (by decide), aa 28 (by decide) (by decide), aa 29 (by decide) (by decide), xu_k _ _ _ (by decide), xu_k _ _ _ (by decide), xu_k _ _ _ (by decide), xu_o _ _ _ o42]
          exact r2
theorem y_req {I : SI} {J : SJ} {A : SI} {B : SJ} {g m l : Nat} (hg : g < 4) (hm : m < 8) (hl : l < 4) (h : SW I A) :
    ∃ I' A', go (p_Sw_acceptRequest (nI m) (nI g) (nI l) (A 0 36 / 4)) I J I' J ∧ go (p_Md_requested (nI m) (nI g) (nI l)) A B A' B ∧ SW I' A' ∧ fB I I' A A' := by
  have pl := h.1 m hm
  by_cases mb : Mb A g m
  · obtain ⟨I1, A1, g1, g2, w, f⟩ := y_join (J := J) (B := B) hg hm hl h
    have no := cl_no (w.2.1 g hg).2.2
    have nr : ¬ (xsr (A 6 m) (nI g)) &&& (1 : Int32) = 0 := fun e => absurd mb ((Mb.ref pl hg).mp e)
    by_cases z : A1 27 g = 0
    · obtain ⟨I2, A2, g3, g4, w2, f2⟩ := y_serve (J := J) (B := B) hg w
      rw [f.2 0 (by decide)] at g3
      refine ⟨I2, A2, fun post q => s_Sw_isMember hm pl hg (fun _ => ⟨fun _ => ⟨g, rfl, hg, g1 _ ⟨g, rfl, hg, fun _ => ⟨fun hx => absurd rfl hx, fun _ => g3 post q⟩, fun hx => absurd (no.1.mpr z) hx⟩⟩, fun hx => absurd hx (by decide)⟩) (fun n => absurd mb n), fun post q => ⟨m, rfl, hm, fun _ => ⟨g, rfl, hg, g2 post ⟨g, rfl, hg, fun hx => absurd z hx, fun _ => g4 post q⟩⟩, fun hx => absurd hx nr⟩, w2, f.trans f2⟩
    · refine ⟨I1, A1, fun post q => s_Sw_isMember hm pl hg (fun _ => ⟨fun _ => ⟨g, rfl, hg, g1 _ ⟨g, rfl, hg, fun hx => absurd (no.1.mp hx) z, fun _ => ⟨fun _ => q, fun hx => absurd hx (by decide)⟩⟩⟩, fun hx => absurd hx (by decide)⟩) (fun n => absurd mb n), fun post q => ⟨m, rfl, hm, fun _ => ⟨g, rfl, hg, g2 post ⟨g, rfl, hg, fun _ => q, fun hx => absurd hx z⟩⟩, fun hx => absurd hx nr⟩, w, f⟩
  · exact ⟨I, A, fun post q => s_Sw_isMember hm pl hg (fun n => absurd n mb) (fun _ => ⟨fun hx => absurd rfl hx, fun _ => q⟩), fun post q => ⟨m, rfl, hm, fun hx => absurd ((Mb.ref pl hg).mpr mb) hx, fun _ => q⟩, h, fB.refl I A⟩
