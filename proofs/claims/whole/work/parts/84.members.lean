/-! the next to say -/
theorem m_shd {c n : Nat} (hc : c < 3) (hn : n ≤ 8) {B : SJ} (d i : Nat) (hi : i + d = n) (A : SI) (eA : A 33 c = nI n) :
    ∃ A', (∀ (post : SI → SJ → Prop) (k241 : Int32 → SI → SJ → Prop) (v4 : Int32), k241 v4 A' B → p_Md_controlSlot_L198 (nI c) post k241 (d + 1) v4 (nI i) A B) ∧ (∀ o, o ≠ 32 → A' o = A o) ∧ (∀ k, 9 * c + i ≤ k → k < 9 * c + n → A' 32 k = A 32 (k + 1)) ∧ (∀ k, k < 9 * c + i ∨ 9 * c + n ≤ k → A' 32 k = A 32 k) := by
  induction d generalizing A i with
  | zero =>
    refine ⟨A, fun post k241 v4 k => ⟨c, rfl, hc, fun _ => k, fun hx => absurd ?_ hx⟩, fun _ _ => rfl, fun k h1 h2 => by omega, fun _ _ => rfl⟩
    rw [eA, show n = i by omega]
    exact (nI_leI (a := i) (b := i) (by omega) (by omega)).mpr (Nat.le_refl _)
  | succ d ih =>
    obtain ⟨A', g, f1, f2, f3⟩ := ih (i + 1) (by omega) (xu A 32 (9 * c + i) (A 32 (9 * c + i + 1))) (by rw [xu_o _ _ _ (by decide)]; exact eA)
    refine ⟨A', fun post k241 v4 k => ⟨c, rfl, hc, fun hx => ?_, fun _ => ⟨9 * c + i + 1, ?_, by omega, 9 * c + i, ?_, by omega, fun I4 e4 x5 e5 => ?_⟩⟩, fun o ho => ?_, fun k h1 h2 => ?_, fun k h1 => ?_⟩
    · rw [eA] at hx; exact absurd hx (nI_ge (by omega) (by omega))
    · rw [show (9 : Int32) * nI c = nI (9 * c) from pk_mul 9 c, nI_add, nI_1]
    · rw [show (9 : Int32) * nI c = nI (9 * c) from pk_mul 9 c, nI_add]
    · rw [nI_1] at e5
      subst e4; subst e5
      exact g post k241 v4 k
    · rw [f1 o ho, xu_o _ _ _ ho]
    · by_cases e : k = 9 * c + i
      · subst e
        rw [f3 _ (by omega), xu_s]
      · rw [f2 k (by omega) h2, xu_k _ _ _ (by omega)]
    · rw [f3 k (by omega), xu_k _ _ _ (by omega)]
theorem y_next {c : Nat} (hc : c < 3) {I : SI} {J : SJ} {A : SI} {B : SJ} (h : SW I A) :
    (A 33 c = 0 ∧ gi (p_Ce_nextToSay c) I J (-1 : Int32) I J) ∨ ∃ b I' A', b < 2 ^ 20 ∧ gi (p_Ce_nextToSay c) I J (nI b) I' J ∧ ¬ A 33 c ≤ 0 ∧ A 32 (9 * c) = nI b ∧ (∀ (post : SI → SJ → Prop) (k241 : Int32 → SI → SJ → Prop) (v4 : Int32), k241 v4 A' B → ∃ n, p_Md_controlSlot_L198 (nI c) post k241 n v4 0 (xu A 33 c (A 33 c - 1)) B) ∧ SW I' A' ∧ fC I I' A A' := by
  obtain ⟨n, hn, n1, n2, n3⟩ := h.2.2 c hc
  by_cases h0 : n = 0
  · subst h0
    exact Or.inl ⟨n2, fun post k => ⟨fun hx => absurd n1 hx, fun _ => k⟩⟩
  · obtain ⟨n, rfl⟩ : ∃ q, n = q + 1 := ⟨n - 1, by omega⟩
    obtain ⟨b, hb, b1, b2⟩ := n3 0 (by omega)
    obtain ⟨A1, g, f1, f2, f3⟩ := m_shd hc (n := n) (by omega) (B := B) n 0 (by omega) (xu A 33 c (A 33 c - 1)) (by rw [xu_s, n2, nI_pred])
    refine Or.inr ⟨b, xr (xu I (46 + c) 1 (nI n)) (49 + c) (va_cpy (I (49 + c)) (I (49 + c)) 1 0 n), A1, hb, ?_, ?_, b2, ?_, ?_, ?_⟩
    · intro post k
      refine ⟨fun _ x1 e1 I2 e2 => ⟨1, 0, n, rfl, rfl, ?_, by omega, by omega, fun I6 e6 => ?_⟩, fun hx => ?_⟩
      · rw [e2, xu_s, n1, nI_pred]
      · rw [n1, nI_pred] at e2
        subst e2
        rw [xu_o _ _ _ (show 49 + c ≠ 46 + c by omega)] at e6
        subst e6
        rw [b1] at e1
        subst e1
        exact k
      · rw [n1] at hx
        exact absurd hx (nI_ne0 (by omega) (by omega))
    · rw [n2]
      exact nI_nle (by omega) (by omega)
    · intro post k241 v4 k
      exact ⟨n + 1, g post k241 v4 k⟩
    · have fr : fC I (xr (xu I (46 + c) 1 (nI n)) (49 + c) (va_cpy (I (49 + c)) (I (49 + c)) 1 0 n)) A A1 := ⟨fun o ho => by rw [xr_n _ _ (by omega), xu_o _ _ _ (by omega)], fun o ho => by rw [f1 o (by omega), xu_o _ _ _ (by omega)]⟩
      refine h.say (c := c) fr (fun q hq e => ⟨?_, ?_⟩) (fun q hq e => ⟨?_, fun k hk => ?_⟩) ⟨n, by omega, ?_, ?_, fun k hk => ?_⟩
      · rw [xr_n _ _ (by omega), xu_o _ _ _ (by omega)]
      · rw [xr_n _ _ (by omega), xu_o _ _ _ (by omega)]
      · rw [f1 33 (by decide), xu_k _ _ _ e]
      · rw [f3 _ (by omega), xu_o _ _ _ (by decide)]
      · rw [xr_n _ _ (by omega), xu_s]
      · rw [f1 33 (by decide), xu_s, n2, nI_pred]
      · rw [xr_s, pk_cpy_in (by omega) (by omega), f2 _ (by omega) (by omega), xu_o _ _ _ (by decide)]
        obtain ⟨x, hx, x1, x2⟩ := n3 (k + 1) (by omega)
        exact ⟨x, hx, by rw [show 1 + (k - 0) = k + 1 by omega]; exact x1, x2⟩
    · exact ⟨fun o ho => by rw [xr_n _ _ (by omega), xu_o _ _ _ (by omega)], fun o ho => by rw [f1 o (by omega), xu_o _ _ _ (by omega)]⟩
/-! what all cells with a member are to say -/
def Mb (A : SI) (g m : Nat) : Prop := (xsr (A 6 m) (nI g)) &&& (1 : Int32) = 1
theorem mb_1 : ∀ x, x < 16 → ∀ g, g < 4 → ((xsu (nI x) (nI g)) &&& (1 : Int32) = 0 ↔ ¬ (xsr (nI x) (nI g)) &&& (1 : Int32) = 1) := by decide +kernel
theorem mb_2 : ∀ x, x < 16 → ∀ g, g < 4 → ((xsr (nI x) (nI g)) &&& (1 : Int32) = 0 ↔ ¬ (xsr (nI x) (nI g)) &&& (1 : Int32) = 1) := by decide +kernel
theorem Mb.cls {I A : SI} {m g : Nat} (h : rPl m I A) (hg : g < 4) : (xsu (I 9 m) (nI g)) &&& (1 : Int32) = 0 ↔ ¬ Mb A g m := by
  obtain ⟨_, _, x, hx, x1, x2⟩ := h
  unfold Mb
  rw [x1, x2]
  exact mb_1 x hx g hg
theorem Mb.ref {I A : SI} {m g : Nat} (h : rPl m I A) (hg : g < 4) : (xsr (A 6 m) (nI g)) &&& (1 : Int32) = 0 ↔ ¬ Mb A g m := by
  obtain ⟨_, _, x, hx, x1, x2⟩ := h
  unfold Mb
  rw [x2]
  exact mb_2 x hx g hg
theorem s_Sw_isMember {I : SI} {J : SJ} {A : SI} {m g : Nat} (hm : m < 8) (h : rPl m I A) (hg : g < 4) {post : Int32 → SI → SJ → Prop} (h1 : Mb A g m → post 1 I J) (h0 : ¬ Mb A g m → post 0 I J) : p_Sw_isMember (nI m) (nI g) post I J :=
  ⟨m, rfl, hm, fun hx => h0 ((Mb.cls h hg).mp hx), fun hx => h1 (Classical.byContradiction (fun n => hx ((Mb.cls h hg).mpr n)))⟩
theorem rb_or : ∀ R, R < 8 → ∀ c, c < 3 → nI R ||| (xsl (1 : Int32) (nI c)) = nI (R ||| 2 ^ c) ∧ R ||| 2 ^ c < 8 ∧ ∀ q, q < 3 → ((R ||| 2 ^ c) / 2 ^ q % 2 = 1 ↔ R / 2 ^ q % 2 = 1 ∨ q = c) := by decide +kernel
theorem rb_at : ∀ R, R < 8 → ∀ c, c < 3 → ((xsu (nI R) (nI c)) &&& (1 : Int32) = 0 ↔ ¬ R / 2 ^ c % 2 = 1) := by decide +kernel
def inC (A : SI) (g n c : Nat) : Prop := ∃ m, m < n ∧ A 24 m = nI c ∧ Mb A g m
theorem inC_no {A : SI} {g n c : Nat} (h : ¬ (A 24 n = nI c ∧ Mb A g n)) : inC A g (n + 1) c ↔ inC A g n c := by
  constructor
  · intro ⟨m, hm, a, b⟩
    by_cases e : m = n
    · subst e
      exact absurd ⟨a, b⟩ h
    · exact ⟨m, by omega, a, b⟩
  · intro ⟨m, hm, a, b⟩
    exact ⟨m, by omega, a, b⟩
theorem c_reach {I : SI} {J : SJ} {A : SI} (h : SW I A) {g : Nat} (hg : g < 4) (k i : Nat) (hi : i + k = 8) (R : Nat) (hR : R < 8) (r : ∀ c, c < 3 → (R / 2 ^ c % 2 = 1 ↔ inC A g i c)) :
    ∃ R', R' < 8 ∧ (∀ c, c < 3 → (R' / 2 ^ c % 2 = 1 ↔ inC A g 8 c)) ∧ ∀ (p2 : Int32) (post : SI → SJ → Prop) (k51 : Int32 → SI → SJ → Prop), k51 (nI R') I J → p_Sw_sayToMembers_L5 (nI g) p2 post k51 (k + 1) (nI R) (nI i) I J := by
  induction k generalizing i R with
  | zero =>
    have e : i = 8 := by omega
    subst e
    exact ⟨R, hR, r, fun p2 post k51 q => ⟨fun _ => q, fun hx => absurd (by decide) hx⟩⟩
  | succ k ih =>
    have hp := h.1 i (by omega)
    obtain ⟨_, ⟨p1, p2⟩, _⟩ := hp
    have st : ∀ (R2 : Nat), R2 < 8 → (∀ c, c < 3 → (R2 / 2 ^ c % 2 = 1 ↔ inC A g (i + 1) c)) → (∀ (p2 : Int32) (post : SI → SJ → Prop) (k5 : Int32 → Int32 → SI → SJ → Prop), k5 (nI R2) (nI (i + 1)) I J → ((I 8 i = (-1 : Int32) → p_Sw_sayToMembers_45 (nI g) p2 post k5 (nI R) (nI i) I J) ∧ (¬ I 8 i = (-1 : Int32) → p_Sw_isMember (nI i) (nI g) (fun r7 I5 J6 => ((r7 = (0) → p_Sw_sayToMembers_45 (nI g) p2 post k5 (nI R) (nI i) I5 J6) ∧ (¬ r7 = (0) → ∃ j8, (nI i) = nI j8 ∧ j8 < 8 ∧ ∀ x9, x9 = (nI R) ||| (xsl (1 : Int32) (I5 (8) j8)) → p_Sw_sayToMembers_45 (nI g) p2 post k5 x9 (nI i) I5 J6))) I J))) →
        ∃ R', R' < 8 ∧ (∀ c, c < 3 → (R' / 2 ^ c % 2 = 1 ↔ inC A g 8 c)) ∧ ∀ (p2 : Int32) (post : SI → SJ → Prop) (k51 : Int32 → SI → SJ → Prop), k51 (nI R') I J → p_Sw_sayToMembers_L5 (nI g) p2 post k51 (k + 1 + 1) (nI R) (nI i) I J := by
      intro R2 h2 r2 q2
      obtain ⟨R', a, b, c⟩ := ih (i + 1) (by omega) R2 h2 r2
      exact ⟨R', a, b, fun p2 post k51 q => ⟨fun hx => absurd hx (nI_ge (b := 8) (by omega) (by decide)), fun _ => ⟨i, rfl, by omega, q2 p2 post _ (c p2 post k51 q)⟩⟩⟩
    have e1 : nI i + 1 = nI (i + 1) := nI_1 i
    rcases p2 with hz | ⟨c, hc, ec⟩
    · refine st R hR (fun q hq => ?_) (fun p2 post k5 k => ⟨fun _ x4 e4 => ?_, fun hx => absurd (p1.trans hz) hx⟩)
      · rw [r q hq, inC_no]
        intro ⟨a, _⟩
        rw [hz] at a
        have : ∀ q, q < 3 → ¬ (-1 : Int32) = nI q := by decide +kernel
        exact this q hq a
      · rw [e1] at e4
        subst e4
        exact k
    · have ne : ¬ I 8 i = (-1 : Int32) := by
        rw [p1, ec]
        have : ∀ q, q < 3 → ¬ nI q = (-1 : Int32) := by decide +kernel
        exact this c hc
      by_cases mb : Mb A g i
      · obtain ⟨o1, o2, o3⟩ := rb_or R hR c hc
        refine st (R ||| 2 ^ c) o2 (fun q hq => ?_) (fun p2 post k5 k => ⟨fun hx => absurd hx ne, fun _ => s_Sw_isMember (by omega) (h.1 i (by omega)) hg (fun _ => ⟨fun hx => absurd hx (by decide), fun _ => ⟨i, rfl, by omega, fun x9 e9 x4 e4 => ?_⟩⟩) (fun n => absurd mb n)⟩)
        · rw [o3 q hq, r q hq]
          constructor
          · intro hx
            rcases hx with ⟨m, hm, a, b⟩ | e
            · exact ⟨m, by omega, a, b⟩
            · subst e
              exact ⟨i, by omega, ec, mb⟩
          · intro ⟨m, hm, a, b⟩
            by_cases e : m = i
            · subst e
              rw [ec] at a
              exact Or.inr ((nI_eq (by omega) (by omega)).mp a).symm
            · exact Or.inl ⟨m, by omega, a, b⟩
        · rw [p1, ec, o1] at e9
          rw [e1] at e4
          subst e9; subst e4
          exact k
      · refine st R hR (fun q hq => ?_) (fun p2 post k5 k => ⟨fun hx => absurd hx ne, fun _ => s_Sw_isMember (by omega) (h.1 i (by omega)) hg (fun n => absurd n mb) (fun _ => ⟨fun _ x4 e4 => ?_, fun hx => absurd rfl hx⟩)⟩)
        · rw [r q hq, inC_no (fun z => mb z.2)]
        · rw [e1] at e4
          subst e4
          exact k
theorem m_reach {A : SI} {B : SJ} {g c : Nat} (k i : Nat) (hi : i + k = 8) (s : Int32) (hs : ¬ s = 0 ↔ inC A g i c) :
    ∃ s' : Int32, (¬ s' = 0 ↔ inC A g 8 c) ∧ ∀ (p2 : Int32) (post : SI → SJ → Prop) (k55 : Int32 → Int32 → SI → SJ → Prop), k55 (nI c) s' A B → p_Md_inMembersCells_L13 (nI g) p2 post k55 (k + 1) (nI c) s (nI i) A B := by
  induction k generalizing i s with
  | zero =>
    have e : i = 8 := by omega
    subst e
    exact ⟨s, hs, fun p2 post k55 q => ⟨fun _ => q, fun hx => absurd (by decide) hx⟩⟩
  | succ k ih =>
    have e1 : nI i + 1 = nI (i + 1) := nI_1 i
    by_cases a : A 24 i = nI c
    · by_cases b : Mb A g i
      · obtain ⟨s', h1, h2⟩ := ih (i + 1) (by omega) 1 ⟨fun _ => ⟨i, by omega, a, b⟩, fun _ => by decide⟩
        refine ⟨s', h1, fun p2 post k55 q => ⟨fun hx => absurd hx (nI_ge (b := 8) (by omega) (by decide)), fun _ => ⟨i, rfl, by omega, fun hx => absurd a hx, fun _ => ⟨i, rfl, by omega, fun hx => absurd b hx, fun _ x7 e7 x5 e5 => ?_⟩⟩⟩⟩
        rw [e1] at e5
        subst e7; subst e5
        exact h2 p2 post k55 q
      · obtain ⟨s', h1, h2⟩ := ih (i + 1) (by omega) s (by rw [hs, inC_no (fun z => b z.2)])
        refine ⟨s', h1, fun p2 post k55 q => ⟨fun hx => absurd hx (nI_ge (b := 8) (by omega) (by decide)), fun _ => ⟨i, rfl, by omega, fun hx => absurd a hx, fun _ => ⟨i, rfl, by omega, fun _ x5 e5 => ?_, fun hx => absurd hx b⟩⟩⟩⟩
        rw [e1] at e5
        subst e5
        exact h2 p2 post k55 q
    · obtain ⟨s', h1, h2⟩ := ih (i + 1) (by omega) s (by rw [hs, inC_no (fun z => a z.1)])
      refine ⟨s', h1, fun p2 post k55 q => ⟨fun hx => absurd hx (nI_ge (b := 8) (by omega) (by decide)), fun _ => ⟨i, rfl, by omega, fun _ x5 e5 => ?_, fun hx => absurd hx a⟩⟩⟩
      rw [e1] at e5
      subst e5
      exact h2 p2 post k55 q
theorem inC_of {A A' : SI} (h24 : A' 24 = A 24) (h6 : A' 6 = A 6) (g n c : Nat) : inC A' g n c ↔ inC A g n c := by
  unfold inC Mb
  rw [h24, h6]
theorem y_mem1 {J B : SJ} {A0 : SI} {g b R : Nat} (hb : b < 2 ^ 20) (hR : R < 8) (r : ∀ c, c < 3 → (R / 2 ^ c % 2 = 1 ↔ inC A0 g 8 c)) (k c : Nat) (hk : c + k = 3) (I A : SI) (h : SW I A) (e24 : A 24 = A0 24) (e6 : A 6 = A0 6) :
    ∃ I' A', (∀ post : SI → SJ → Prop, post I' J → p_Sw_sayToMembers_L54 (nI g) (nI b) post (k + 1) (nI R) (nI c) I J) ∧ (∀ post : SI → SJ → Prop, post A' B → p_Md_inMembersCells_L2 (nI g) (nI b) post (k + 1) (nI c) A B) ∧ SW I' A' ∧ fC I I' A A' := by
  induction k generalizing c I A with
  | zero =>
    have e : c = 3 := by omega
    subst e
    exact ⟨I, A, fun post q => ⟨fun _ => q, fun hx => absurd (by decide) hx⟩, fun post q => ⟨fun _ => q, fun hx => absurd (by decide) hx⟩, h, fC.refl I A⟩
  | succ k ih =>
    have e1 : nI c + 1 = nI (c + 1) := nI_1 c
    have hc : c < 3 := by omega
    have r0 := inC_of e24 e6 g 8 c
    obtain ⟨s, s1, s2⟩ := m_reach (A := A) (B := B) (g := g) (c := c) 8 0 (by omega) 0 ⟨fun hx => absurd rfl hx, fun ⟨m, hm, _⟩ => by omega⟩
    by_cases a : inC A g 8 c
    · have bt : R / 2 ^ c % 2 = 1 := (r c hc).mpr (r0.mp a)
      obtain ⟨I1, A1, g1, g2, w1, f1⟩ := y_say (J := J) (B := B) hc hb h
      obtain ⟨I2, A2, g3, g4, w2, f2⟩ := ih (c + 1) (by omega) I1 A1 w1 ((f1.2 24 (by decide)).trans e24) ((f1.2 6 (by decide)).trans e6)
      refine ⟨I2, A2, fun post q => ⟨fun hx => absurd hx (nI_ge (b := 3) (by omega) (by decide)), fun _ => ⟨fun hx => absurd bt ((rb_at R hR c hc).mp hx), fun _ => ⟨c, rfl, hc, g1 _ (fun x e => ?_)⟩⟩⟩, fun post q => ⟨fun hx => absurd hx (nI_ge (b := 3) (by omega) (by decide)), fun _ x2 e2 x3 e3 => ?_⟩, w2, f1.trans f2⟩
      · rw [e1] at e
        subst e
        exact g3 post q
      · subst e2; subst e3
        refine ⟨9, s2 _ _ _ ⟨fun hx => absurd hx (s1.mpr a), fun _ => g2 _ (fun x e => ?_)⟩⟩
        rw [e1] at e
        subst e
        exact g4 post q
    · have bt : ¬ R / 2 ^ c % 2 = 1 := fun e => a (r0.mpr ((r c hc).mp e))
      obtain ⟨I2, A2, g3, g4, w2, f2⟩ := ih (c + 1) (by omega) I A h e24 e6
      refine ⟨I2, A2, fun post q => ⟨fun hx => absurd hx (nI_ge (b := 3) (by omega) (by decide)), fun _ => ⟨fun _ x e => ?_, fun hx => absurd ((rb_at R hR c hc).mpr bt) hx⟩⟩, fun post q => ⟨fun hx => absurd hx (nI_ge (b := 3) (by omega) (by decide)), fun _ x2 e2 x3 e3 => ?_⟩, w2, f2⟩
      · rw [e1] at e
        subst e
        exact g3 post q
      · subst e2; subst e3
        refine ⟨9, s2 _ _ _ ⟨fun _ x e => ?_, fun hx => absurd (s1.mp hx) a⟩⟩
        rw [e1] at e
        subst e
        exact g4 post q
theorem y_mem {I : SI} {J : SJ} {A : SI} {B : SJ} {g b : Nat} (hg : g < 4) (hb : b < 2 ^ 20) (h : SW I A) :
    ∃ I' A', go (p_Sw_sayToMembers (nI g) (nI b)) I J I' J ∧ go (p_Md_inMembersCells (nI g) (nI b)) A B A' B ∧ SW I' A' ∧ fC I I' A A' := by
  obtain ⟨R, hR, r, g1⟩ := c_reach (J := J) h hg 8 0 (by omega) 0 (by decide) (fun c hc => ⟨fun hx => by rw [Nat.zero_div] at hx; exact absurd hx (by decide), fun ⟨m, hm, _⟩ => by omega⟩)
  obtain ⟨I', A', g2, g3, w, f⟩ := y_mem1 (J := J) (B := B) hb hR r 3 0 (by omega) I A h rfl rfl
  refine ⟨I', A', fun post q x1 e1 x2 e2 => ?_, fun post q x1 e1 => ?_, w, f⟩
  · subst e1; subst e2
    exact ⟨9, g1 _ _ _ (fun x e => by subst e; exact ⟨4, g2 post q⟩)⟩
  · subst e1
    exact ⟨4, g3 post q⟩
