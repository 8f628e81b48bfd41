/-! the floor is given -/
def fB (I I' A A' : SI) : Prop := (∀ o, o < 38 → I' o = I o) ∧ (∀ o, o < 27 → A' o = A o)
theorem fB.refl (I A : SI) : fB I I A A := ⟨fun _ _ => rfl, fun _ _ => rfl⟩
theorem fB.trans {I I1 I2 A A1 A2 : SI} (h : fB I I1 A A1) (k : fB I1 I2 A1 A2) : fB I I2 A A2 := ⟨fun o a => (k.1 o a).trans (h.1 o a), fun o a => (k.2 o a).trans (h.2 o a)⟩
theorem fB.fS {I I' A A' : SI} (h : fB I I' A A') : fS I I' A A' := ⟨fun o a _ => h.1 o a, fun o a => h.2 o (by omega)⟩
theorem fC.fB {I I' A A' : SI} (h : fC I I' A A') : fB I I' A A' := ⟨fun o a => h.1 o (by omega), fun o a => h.2 o (by omega)⟩
theorem SW.grp {g : Nat} (hg : g < 4) {I I' A A' : SI} (h : SW I A) (i : ∀ o, o < 38 ∨ 46 ≤ o → I' o = I o) (a : ∀ o, o < 27 ∨ 32 ≤ o → A' o = A o) (i2 : ∀ q, q < 4 → q ≠ g → I' (38 + q) = I (38 + q) ∧ I' (42 + q) = I (42 + q)) (a2 : ∀ o q, q < 4 → q ≠ g → o ≠ 30 → A' o q = A o q) (a3 : ∀ k, k < 6 * g ∨ 6 * g + 6 ≤ k → A' 30 k = A 30 k) (n : rGrp g I' A') : SW I' A' := by
  refine ⟨fun m hm => rPl_of (h.1 m hm) (by rw [i 7 (by decide)]) (by rw [i 8 (by decide)]) (by rw [i 9 (by decide)]) (by rw [a 5 (by decide)]) (by rw [a 6 (by decide)]) (by rw [a 24 (by decide)]), fun q hq => ?_, fun c hc => rSy_of (h.2.2 c hc) (i _ (by omega)) (i _ (by omega)) (by rw [a 33 (by decide)]) (fun k _ => by rw [a 32 (by decide)])⟩
  by_cases e : q = g
  · subst e
    exact n
  · exact rGrp_of (h.2.1 q hq) (i2 q hq e).1 (i2 q hq e).2 (fun o _ _ ho => a2 o q hq e ho) (fun k hk => a3 _ (by omega))
theorem y_serve1 {I : SI} {J : SJ} {A : SI} {B : SJ} {g ch : Nat} (hg : g < 4) (h0 : 0 < ch) (h4 : ch < 4) (h : SW I A) :
    ∃ I' A', go (fun post => p_Sw_serve_25 (nI g) (A 0 36 / 4) post g (nI ch)) I J I' J ∧ go (fun post => p_Md_serve_22 (nI g) post (nI ch)) A B A' B ∧ SW I' A' ∧ fB I I' A A' := by
  obtain ⟨r0, ⟨n, hn, n1, n2, n3⟩, r2⟩ := h.2.1 g hg
  have c0 : ¬ nI ch = (-1 : Int32) := by
    have : ∀ q, q < 4 → ¬ nI q = (-1 : Int32) := by decide +kernel
    exact this ch h4
  have c1 : ¬ nI ch = 0 := nI_ne0 h0 (by omega)
  by_cases z : n = 0
  · subst z
    exact ⟨I, A, fun post q => ⟨fun _ => q, fun hx => absurd n1 hx⟩, fun post q => ⟨g, rfl, hg, fun _ => q, fun hx => absurd n2 hx⟩, h, fB.refl I A⟩
  · obtain ⟨n, rfl⟩ : ∃ q, n = q + 1 := ⟨n - 1, by omega⟩
    have nz1 : ¬ I (38 + g) 1 = 0 := by rw [n1]; exact nI_ne0 (by omega) (by omega)
    have nz2 : ¬ A 31 g = 0 := by rw [n2]; exact nI_ne0 (by omega) (by omega)
    have o42 : 42 + g ≠ 38 + g := by omega
    obtain ⟨u, hu, g1, g2⟩ := y_best1 (I := xu I (38 + g) 3 (nI ch)) (J := J) (A := A) (B := B) hg hn (by rw [xu_k _ _ _ (by decide)]; exact n1) n2 (fun k hk => by rw [xu_o _ _ _ o42]; exact n3 k hk) n 1 0 (by omega) (by omega)
    obtain ⟨b, hb, b1, b2⟩ := n3 u hu
    let I7 : SI := xu (xu (xu (xu I (38 + g) 3 (nI ch)) (38 + g) 4 (nI (b / 4))) (38 + g) 5 (A 0 36 / 4)) (38 + g) 1 (nI n)
    let I9 : SI := xr I7 (42 + g) (va_cpy (I (42 + g)) (I (42 + g)) (u + 1) u (n - u))
    let A7 : SI := xu (xu (xu (xu A 27 g (nI ch)) 28 g (nI (b / 4))) 29 g (A 0 36 / 4)) 31 g (nI n)
    have i7 : ∀ o, o ≠ 38 + g → I7 o = I o := fun o ho => by
      show xu (xu (xu (xu I (38 + g) 3 (nI ch)) (38 + g) 4 (nI (b / 4))) (38 + g) 5 (A 0 36 / 4)) (38 + g) 1 (nI n) o = I o
      rw [xu_o _ _ _ ho, xu_o _ _ _ ho, xu_o _ _ _ ho, xu_o _ _ _ ho]
    have a7 : ∀ o, o ≠ 27 → o ≠ 28 → o ≠ 29 → o ≠ 31 → A7 o = A o := fun o h1 h2 h3 h4 => by
      show xu (xu (xu (xu A 27 g (nI ch)) 28 g (nI (b / 4))) 29 g (A 0 36 / 4)) 31 g (nI n) o = A o
      rw [xu_o _ _ _ h4, xu_o _ _ _ h3, xu_o _ _ _ h2, xu_o _ _ _ h1]
    have a7q : ∀ o q, q ≠ g → A7 o q = A o q := fun o q hq => by
      show xu (xu (xu (xu A 27 g (nI ch)) 28 g (nI (b / 4))) 29 g (A 0 36 / 4)) 31 g (nI n) o q = A o q
      have st : ∀ (F : SI) (p : Nat) (v : Int32), xu F p g v o q = F o q := fun F p v => by
        by_cases e : o = p
        · subst e
          exact xu_k _ _ _ hq
        · rw [xu_o _ _ _ e]
      rw [st, st, st, st]
    have a27 : A7 27 g = nI ch := by
      show xu (xu (xu (xu A 27 g (nI ch)) 28 g (nI (b / 4))) 29 g (A 0 36 / 4)) 31 g (nI n) 27 g = _
      rw [xu_o _ _ _ (by decide), xu_o _ _ _ (by decide), xu_o _ _ _ (by decide), xu_s]
    have a28 : A7 28 g = nI (b / 4) := by
      show xu (xu (xu (xu A 27 g (nI ch)) 28 g (nI (b / 4))) 29 g (A 0 36 / 4)) 31 g (nI n) 28 g = _
      rw [xu_o _ _ _ (by decide), xu_o _ _ _ (by decide), xu_s]
    have a29 : A7 29 g = A 0 36 / 4 := by
      show xu (xu (xu (xu A 27 g (nI ch)) 28 g (nI (b / 4))) 29 g (A 0 36 / 4)) 31 g (nI n) 29 g = _
      rw [xu_o _ _ _ (by decide), xu_s]
    have a31 : A7 31 g = nI n := xu_s _ _ _ _
    have i9 : ∀ o, o ≠ 38 + g → o ≠ 42 + g → I9 o = I o := fun o h1 h2 => (xr_n _ _ h2).trans (i7 o h1)
    have i38 : I9 (38 + g) = I7 (38 + g) := xr_n _ _ (by omega)
    obtain ⟨A8, f1, f2, f3, g3⟩ := m_row hg (n := n) (by omega) (B := B) (n - u) u (by omega) A7 a31
    have w : SW I9 A8 := by
      refine h.grp hg (fun o ho => i9 o (by omega) (by omega)) (fun o ho => by rw [f1 o (by omega), a7 o (by omega) (by omega) (by omega) (by omega)]) (fun q hq e => ⟨i9 _ (by omega) (by omega), i9 _ (by omega) (by omega)⟩) (fun o q hq e ho => by rw [f1 o ho, a7q o q e]) (fun k hk => by rw [f3 k (by omega), a7 30 (by decide) (by decide) (by decide) (by decide)]) ⟨?_, ⟨n, by omega, ?_, ?_, fun k hk => ?_⟩, Or.inr ⟨ch, b / 4, h0, h4, by omega, ?_, ?_, ?_, ?_, ?_⟩⟩
      · rw [i38, f1 26 (by decide), a7 26 (by decide) (by decide) (by decide) (by decide), ← r0]
        show xu (xu (xu (xu I (38 + g) 3 (nI ch)) (38 + g) 4 (nI (b / 4))) (38 + g) 5 (A 0 36 / 4)) (38 + g) 1 (nI n) (38 + g) 2 = _
        rw [xu_k _ _ _ (by decide), xu_k _ _ _ (by decide), xu_k _ _ _ (by decide), xu_k _ _ _ (by decide)]
      · rw [i38]
        exact xu_s _ _ _ _
      · rw [f1 31 (by decide), a31]
      · have e9 : I9 (42 + g) = va_cpy (I (42 + g)) (I (42 + g)) (u + 1) u (n - u) := xr_s _ _ _
        rw [e9]
        by_cases e : u ≤ k
        · rw [pk_cpy_in e (by omega), f2 _ (by omega) (by omega), a7 30 (by decide) (by decide) (by decide) (by decide), show u + 1 + (k - u) = k + 1 by omega]
          exact n3 (k + 1) (by omega)
        · rw [pk_cpy_out (by omega), f3 _ (by omega), a7 30 (by decide) (by decide) (by decide) (by decide)]
          exact n3 k (by omega)
      · rw [f1 27 (by decide), a27]
      · rw [i38]
        show xu (xu (xu (xu I (38 + g) 3 (nI ch)) (38 + g) 4 (nI (b / 4))) (38 + g) 5 (A 0 36 / 4)) (38 + g) 1 (nI n) (38 + g) 3 = _
        rw [xu_k _ _ _ (by decide), xu_k _ _ _ (by decide), xu_k _ _ _ (by decide), xu_s]
      · rw [f1 28 (by decide), a28]
      · rw [i38]
        show xu (xu (xu (xu I (38 + g) 3 (nI ch)) (38 + g) 4 (nI (b / 4))) (38 + g) 5 (A 0 36 / 4)) (38 + g) 1 (nI n) (38 + g) 4 = _
        rw [xu_k _ _ _ (by decide), xu_k _ _ _ (by decide), xu_s]
      · rw [i38, f1 29 (by decide), a29]
        show xu (xu (xu (xu I (38 + g) 3 (nI ch)) (38 + g) 4 (nI (b / 4))) (38 + g) 5 (A 0 36 / 4)) (38 + g) 1 (nI n) (38 + g) 5 = _
        rw [xu_k _ _ _ (by decide), xu_s]
    have fr : fB I I9 A A8 := ⟨fun o ho => i9 o (by omega) (by omega), fun o ho => by rw [f1 o (by omega), a7 o (by omega) (by omega) (by omega) (by omega)]⟩
    obtain ⟨I', A', g4, g5, w', f'⟩ := y_mem (J := J) (B := B) (g := g) (b := blk 9 (b / 4) (4 * g + ch) 0) hg (blk_lt (by omega) (by omega) (by omega) (by omega)) w
    refine ⟨I', A', fun post q => ⟨fun hx => absurd hx nz1, fun _ => ⟨fun _ I8 e8 => ?_, fun hx => absurd hx c0⟩⟩, fun post q => ⟨g, rfl, hg, fun hx => absurd hx nz2, fun _ => ⟨fun _ x6 e6 x7 e7 => ?_, fun hx => absurd hx c1⟩⟩, w', fr.trans f'.fB⟩
    · subst e8
      intro x1 e1 x2 e2
      subst e1; subst e2
      refine ⟨n + 1, g1 _ ⟨u, rfl, by omega, fun I5 e5 I6 e6 J7 e7 => ?_⟩⟩
      have eb : xsu (xu I (38 + g) 3 (nI ch) (42 + g) u) 2 = nI (b / 4) := by rw [xu_o _ _ _ o42, b1, su_2 (by omega)]
      rw [eb] at e5
      subst e5; subst e6
      have en : xu (xu (xu I (38 + g) 3 (nI ch)) (38 + g) 4 (nI (b / 4))) (38 + g) 5 (A 0 36 / 4) (38 + g) 1 - 1 = nI n := by
        rw [xu_k _ _ _ (by decide), xu_k _ _ _ (by decide), xu_k _ _ _ (by decide), n1, nI_pred]
      rw [en] at e7
      have e7' : J7 = I7 := e7
      subst e7'
      refine ⟨u + 1, u, n - u, nI_1 u, rfl, ?_, by omega, by omega, fun I11 e11 => ?_⟩
      · rw [show I7 (38 + g) 1 = nI n from xu_s _ _ _ _, pk_sub (by omega)]
      · rw [i7 (42 + g) (by omega)] at e11
        have e11' : I11 = I9 := e11
        subst e11'
        have eh : I9 (38 + g) 4 = nI (b / 4) := by
          rw [i38]
          show xu (xu (xu (xu I (38 + g) 3 (nI ch)) (38 + g) 4 (nI (b / 4))) (38 + g) 5 (A 0 36 / 4)) (38 + g) 1 (nI n) (38 + g) 4 = _
          rw [xu_k _ _ _ (by decide), xu_k _ _ _ (by decide), xu_s]
        rw [eh]
        exact s_Bk_of (k := 9) (r := 0) (by omega) (by omega) hg h4 (by omega) (and_n3 h4) (g4 post q)
    · subst e6; subst e7
      refine ⟨n + 1, g2 _ _ _ ⟨g, rfl, hg, fun I19 e19 => ⟨6 * g + u, ?_, by omega, g, rfl, hg, fun I22 e22 => ⟨g, rfl, hg, fun I24 e24 => ⟨g, rfl, hg, g, rfl, hg, fun I27 e27 => ?_⟩⟩⟩⟩⟩
      · rw [show (6 : Int32) * nI g = nI (6 * g) from pk_mul 6 g, nI_add]
      · subst e19
        rw [xu_o _ _ _ (show 30 ≠ 27 by decide), b2, sr_2 (by omega)] at e22
        subst e22
        rw [xu_o _ _ _ (show 0 ≠ 28 by decide), xu_o _ _ _ (show 0 ≠ 27 by decide)] at e24
        subst e24
        rw [xu_o _ _ _ (show 31 ≠ 29 by decide), xu_o _ _ _ (show 31 ≠ 28 by decide), xu_o _ _ _ (show 31 ≠ 27 by decide), n2, nI_pred] at e27
        have e27' : I27 = A7 := e27
        subst e27'
        refine ⟨n - u + 1, g3 post (nI ch) ?_⟩
        rw [f1 28 (by decide), a28]
        exact s_Md_control (k := 9) (r := 0) (by omega) (by omega) hg h4 (by omega) (g5 post q)
theorem y_serve {I : SI} {J : SJ} {A : SI} {B : SJ} {g : Nat} (hg : g < 4) (h : SW I A) :
    ∃ I' A', go (p_Sw_serve (nI g) (A 0 36 / 4)) I J I' J ∧ go (p_Md_serve (nI g)) A B A' B ∧ SW I' A' ∧ fB I I' A A' := by
  have cl : ∀ g, g < 4 → rCl g I A := fun g hg => (h.2.1 g hg).2.2
  have no := cl_no (cl g hg)
  by_cases z : A 27 g = 0
  · obtain ⟨v, w, g1, g2, e⟩ := y_free (J := J) (B := B) cl
    have cls : ∀ post : SI → SJ → Prop, p_Sw_serve_25 (nI g) (A 0 36 / 4) post g v I J → p_Sw_serve (nI g) (A 0 36 / 4) post I J := fun post q => ⟨g, rfl, hg, fun _ => ⟨fun _ => g1 _ q, fun hx => absurd rfl hx⟩, fun hx => absurd (no.1.mpr z) hx⟩
    have mdl : ∀ post : SI → SJ → Prop, p_Md_serve_22 (nI g) post w A B → p_Md_serve (nI g) post A B := fun post q => ⟨g, rfl, hg, fun _ => g2 _ q, fun hx => absurd (no.2.mpr z) hx⟩
    rcases e with ⟨ev, ew⟩ | ⟨ch, h0, h4, ev, ew⟩
    · refine ⟨I, A, fun post q => cls post ⟨fun _ => q, fun _ => ⟨fun hx => absurd ev hx, fun _ => q⟩⟩, fun post q => mdl post ⟨g, rfl, hg, fun _ => q, fun _ => ⟨fun hx => absurd ew hx, fun _ => q⟩⟩, h, fB.refl I A⟩
    · subst ev; subst ew
      obtain ⟨I', A', k1, k2, w, f⟩ := y_serve1 (J := J) (B := B) hg h0 h4 h
      exact ⟨I', A', fun post q => cls post (k1 post q), fun post q => mdl post (k2 post q), w, f⟩
  · rcases cl g hg with ⟨zz, _⟩ | ⟨c, x, c0, c4, _, e1, e2, _⟩
    · exact absurd zz z
    · obtain ⟨I', A', k1, k2, w, f⟩ := y_serve1 (J := J) (B := B) hg c0 c4 h
      refine ⟨I', A', fun post q => ⟨g, rfl, hg, fun hx => absurd (no.1.mp hx) z, fun _ => ⟨fun hx => absurd hx (by decide), fun _ => ?_⟩⟩, fun post q => ⟨g, rfl, hg, fun hx => absurd (no.2.mp hx) z, fun _ => ⟨g, rfl, hg, ?_⟩⟩, w, f⟩
      · rw [e2]
        exact k1 post q
      · rw [e1]
        exact k2 post q
