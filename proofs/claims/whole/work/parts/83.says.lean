/-! what the cells are to say -/
def fC (I I' A A' : SI) : Prop := (∀ o, o < 46 → I' o = I o) ∧ (∀ o, o < 32 → A' o = A o)
theorem fC.refl (I A : SI) : fC I I A A := ⟨fun _ _ => rfl, fun _ _ => rfl⟩
theorem fC.trans {I I1 I2 A A1 A2 : SI} (h : fC I I1 A A1) (k : fC I1 I2 A1 A2) : fC I I2 A A2 := ⟨fun o a => (k.1 o a).trans (h.1 o a), fun o a => (k.2 o a).trans (h.2 o a)⟩
theorem fC.fS {I I' A A' : SI} (h : fC I I' A A') : fS I I' A A' := ⟨fun o a _ => h.1 o (by omega), fun o a => h.2 o (by omega)⟩
theorem fC.pl {I I' A A' : SI} (h : fC I I' A A') {m : Nat} (k : rPl m I A) : rPl m I' A' :=
  rPl_of k (by rw [h.1 7 (by decide)]) (by rw [h.1 8 (by decide)]) (by rw [h.1 9 (by decide)]) (by rw [h.2 5 (by decide)]) (by rw [h.2 6 (by decide)]) (by rw [h.2 24 (by decide)])
theorem fC.grp {I I' A A' : SI} (h : fC I I' A A') {g : Nat} (hg : g < 4) (k : rGrp g I A) : rGrp g I' A' :=
  rGrp_of k (h.1 _ (by omega)) (h.1 _ (by omega)) (fun o _ _ _ => by rw [h.2 o (by omega)]) (fun k _ => by rw [h.2 30 (by decide)])
theorem SW.say {c : Nat} {I I' A A' : SI} (h : SW I A) (f : fC I I' A A') (i : ∀ q, q < 3 → q ≠ c → I' (46 + q) = I (46 + q) ∧ I' (49 + q) = I (49 + q)) (a : ∀ q, q < 3 → q ≠ c → A' 33 q = A 33 q ∧ ∀ k, k < 8 → A' 32 (9 * q + k) = A 32 (9 * q + k)) (n : rSy c I' A') : SW I' A' := by
  refine ⟨fun m hm => f.pl (h.1 m hm), fun g hg => f.grp hg (h.2.1 g hg), fun q hq => ?_⟩
  by_cases e : q = c
  · subst e
    exact n
  · exact rSy_of (h.2.2 q hq) (i q hq e).1 (i q hq e).2 (a q hq e).1 (a q hq e).2
/-- one more at the end -/
theorem y_say {c b : Nat} (hc : c < 3) (hb : b < 2 ^ 20) {I : SI} {J : SJ} {A : SI} {B : SJ} (h : SW I A) :
    ∃ I' A', go (p_Ce_sayLast c (nI b)) I J I' J ∧ go (p_Md_toSay (nI c) (nI b)) A B A' B ∧ SW I' A' ∧ fC I I' A A' := by
  obtain ⟨n, hn, n1, n2, n3⟩ := h.2.2 c hc
  by_cases h8 : n = 8
  · subst h8
    refine ⟨I, A, fun post k => ⟨fun _ => k, fun hx => absurd ?_ hx⟩, fun post k => ⟨c, rfl, hc, fun _ => k, fun hx => absurd ?_ hx⟩, h, fC.refl I A⟩
    · rw [n1]; exact (nI_leI (a := 8) (b := 8) (by decide) (by decide)).mpr (Nat.le_refl _)
    · rw [n2]; exact (nI_leI (a := 8) (b := 8) (by decide) (by decide)).mpr (Nat.le_refl _)
  · have hn8 : n < 8 := by omega
    refine ⟨xu (xu I (49 + c) n (nI b)) (46 + c) 1 (nI (n + 1)), xu (xu A 32 (9 * c + n) (nI b)) 33 c (nI (n + 1)), fun post k => ⟨fun hx => ?_, fun _ => ⟨n, n1, hn8, fun I2 e2 I3 e3 => ?_⟩⟩, fun post k => ⟨c, rfl, hc, fun hx => ?_, fun _ => ⟨c, rfl, hc, 9 * c + n, ?_, by omega, fun I4 e4 => ⟨c, rfl, hc, c, rfl, hc, fun I7 e7 => ?_⟩⟩⟩, ?_, ?_⟩
    · rw [n1] at hx; exact absurd hx (nI_ge hn8 (by decide))
    · subst e2
      rw [xu_o I _ _ (show 46 + c ≠ 49 + c by omega), n1, nI_1] at e3
      subst e3
      exact k
    · rw [n2] at hx; exact absurd hx (nI_ge hn8 (by decide))
    · rw [n2, show (9 : Int32) * nI c = nI (9 * c) from pk_mul 9 c, nI_add]
    · subst e4
      rw [xu_o A _ _ (show 33 ≠ 32 by decide), n2, nI_1] at e7
      subst e7
      exact k
    · refine h.say (c := c) ?_ (fun q hq e => ⟨?_, ?_⟩) (fun q hq e => ⟨?_, fun k hk => ?_⟩) ⟨n + 1, by omega, xu_s _ _ _ _, xu_s _ _ _ _, fun k hk => ?_⟩
      · exact ⟨fun o ho => by rw [xu_o _ _ _ (by omega), xu_o _ _ _ (by omega)], fun o ho => by rw [xu_o _ _ _ (by omega), xu_o _ _ _ (by omega)]⟩
      · rw [xu_o _ _ _ (by omega), xu_o _ _ _ (by omega)]
      · rw [xu_o _ _ _ (by omega), xu_o _ _ _ (by omega)]
      · rw [xu_k _ _ _ e, xu_o _ _ _ (by decide)]
      · rw [xu_o _ _ _ (by decide), xu_k _ _ _ (by omega)]
      · rw [xu_o _ _ _ (show 49 + c ≠ 46 + c by omega), xu_o _ _ _ (show 32 ≠ 33 by decide)]
        by_cases e : k = n
        · subst e
          exact ⟨b, hb, xu_s _ _ _ _, xu_s _ _ _ _⟩
        · rw [xu_k _ _ _ e, xu_k _ _ _ (by omega)]
          exact n3 k (by omega)
    · exact ⟨fun o ho => by rw [xu_o _ _ _ (by omega), xu_o _ _ _ (by omega)], fun o ho => by rw [xu_o _ _ _ (by omega), xu_o _ _ _ (by omega)]⟩
/-- one more at the front -/
theorem m_shf {c : Nat} (hc : c < 3) (p2 : Int32) (post : SI → SJ → Prop) {B : SJ} (i : Nat) (hi : i ≤ 8) (A : SI) :
    ∃ A', (∀ k37 : SI → SJ → Prop, k37 A' B → p_Md_sayFirst_L3 (nI c) p2 post k37 (i + 1) (nI i) A B) ∧ (∀ o, o ≠ 32 → A' o = A o) ∧ (∀ k, 9 * c + 1 ≤ k → k ≤ 9 * c + i → A' 32 k = A 32 (k - 1)) ∧ (∀ k, k < 9 * c + 1 ∨ 9 * c + i < k → A' 32 k = A 32 k) := by
  induction i generalizing A with
  | zero => exact ⟨A, fun k37 k => ⟨fun _ => k, fun hx => absurd (by decide) hx⟩, fun _ _ => rfl, fun k h1 h2 => by omega, fun _ _ => rfl⟩
  | succ i ih =>
    obtain ⟨A', g, f1, f2, f3⟩ := ih (by omega) (xu A 32 (9 * c + (i + 1)) (A 32 (9 * c + i)))
    refine ⟨A', fun k37 k => ⟨fun hx => ?_, fun _ => ⟨9 * c + i, ?_, by omega, 9 * c + (i + 1), ?_, by omega, fun I4 e4 x5 e5 => ?_⟩⟩, fun o ho => ?_, fun k h1 h2 => ?_, fun k h1 => ?_⟩
    · exact absurd hx (nI_nle (by omega) (by omega))
    · rw [show (9 : Int32) * nI c = nI (9 * c) from pk_mul 9 c, nI_add, show (1 : Int32) = nI 1 from rfl, pk_sub (by omega)]
      rfl
    · rw [show (9 : Int32) * nI c = nI (9 * c) from pk_mul 9 c, nI_add]
    · rw [pk_m1] at e5
      subst e4; subst e5
      exact g k37 k
    · rw [f1 o ho, xu_o _ _ _ ho]
    · by_cases e : k = 9 * c + (i + 1)
      · subst e
        rw [f3 _ (by omega), xu_s]
        rfl
      · rw [f2 k h1 (by omega), xu_k _ _ _ (by omega)]
    · rw [f3 k (by omega), xu_k _ _ _ (by omega)]
theorem y_first {c b : Nat} (hc : c < 3) (hb : b < 2 ^ 20) {I : SI} {J : SJ} {A : SI} {B : SJ} (h : SW I A) :
    ∃ I' A', go (p_Ce_sayFirst c (nI b)) I J I' J ∧ go (p_Md_sayFirst (nI c) (nI b)) A B A' B ∧ SW I' A' ∧ fC I I' A A' := by
  obtain ⟨n, hn, n1, n2, n3⟩ := h.2.2 c hc
  obtain ⟨q, hq, hq7, hqn, qn⟩ : ∃ q, (if (7 : Int32) < I (46 + c) 1 then (7 : Int32) else I (46 + c) 1) = nI q ∧ q ≤ 7 ∧ q ≤ n ∧ (n = 8 ∧ q = 7 ∨ n < 8 ∧ q = n) := by
    rw [n1]
    by_cases e : n = 8
    · exact ⟨7, by rw [if_pos]; rfl; exact nI_lt (a := 7) (b := n) (by omega) (by omega), by omega, by omega, by omega⟩
    · exact ⟨n, by rw [if_neg]; exact nI_nlt (a := 7) (b := n) (by omega) (by omega), by omega, by omega, by omega⟩
  obtain ⟨A1, g, f1, f2, f3⟩ := m_shf hc (nI b) (fun _ _ => True) (B := B) 8 (by omega) A
  refine ⟨xu (xu (xr I (49 + c) (va_cpy (I (49 + c)) (I (49 + c)) 0 1 q)) (49 + c) 0 (nI b)) (46 + c) 1 (nI (q + 1)), xu (xu A1 32 (9 * c) (nI b)) 33 c (nI (q + 1)), ?_, ?_, ?_, ?_⟩
  · intro post k x1 e1
    rw [hq] at e1
    subst e1
    refine ⟨0, 1, q, rfl, rfl, rfl, by omega, by omega, fun I5 e5 I6 e6 I7 e7 => ?_⟩
    subst e5; subst e6
    rw [nI_1] at e7
    subst e7
    exact k
  · intro post k x1 e1
    subst e1
    obtain ⟨A2, g2, j1, j2, j3⟩ := m_shf hc (nI b) post (B := B) 8 (by omega) A
    have eA : A2 = A1 := by
      funext o k
      by_cases e : o = 32
      · subst e
        by_cases e2 : 9 * c + 1 ≤ k ∧ k ≤ 9 * c + 8
        · rw [j2 k e2.1 e2.2, f2 k e2.1 e2.2]
        · rw [j3 k (by omega), f3 k (by omega)]
      · rw [j1 o e, f1 o e]
    subst eA
    refine ⟨9, g2 _ ⟨9 * c, pk_mul 9 c, by omega, fun I10 e10 => ⟨c, rfl, hc, fun hx => ?_, fun hx => ⟨c, rfl, hc, c, rfl, hc, fun I14 e14 => ?_⟩⟩⟩⟩
    · subst e10
      rw [xu_o _ _ _ (show 33 ≠ 32 by decide), f1 33 (by decide), n2] at hx
      have e8 : n = 8 := by
        have := (nI_leI (a := 8) (b := n) (by decide) (by omega)).mp hx
        omega
      have e7 : q = 7 := by omega
      subst e7
      have es : xu (xu A2 32 (9 * c) (nI b)) 33 c (nI (7 + 1)) = xu A2 32 (9 * c) (nI b) := by
        funext o k
        by_cases eo : o = 33
        · subst eo
          by_cases ek : k = c
          · subst ek
            rw [xu_s, xu_o _ _ _ (show 33 ≠ 32 by decide), f1 33 (by decide), n2, e8]
          · rw [xu_k _ _ _ ek]
        · rw [xu_o _ _ _ eo]
      rw [es] at k
      exact k
    · subst e10
      rw [xu_o _ _ _ (show 33 ≠ 32 by decide), f1 33 (by decide), n2, nI_1] at e14
      rw [xu_o _ _ _ (show 33 ≠ 32 by decide), f1 33 (by decide), n2] at hx
      have e8 : ¬ n = 8 := fun e => hx (by rw [e]; exact (nI_leI (a := 8) (b := 8) (by decide) (by decide)).mpr (Nat.le_refl _))
      have e7 : q = n := by omega
      subst e7
      subst e14
      exact k
  · refine h.say (c := c) ?_ (fun p hp e => ⟨?_, ?_⟩) (fun p hp e => ⟨?_, fun k hk => ?_⟩) ⟨q + 1, by omega, xu_s _ _ _ _, xu_s _ _ _ _, fun k hk => ?_⟩
    · exact ⟨fun o ho => by rw [xu_o _ _ _ (by omega), xu_o _ _ _ (by omega), xr_n _ _ (by omega)], fun o ho => by rw [xu_o _ _ _ (by omega), xu_o _ _ _ (by omega), f1 o (by omega)]⟩
    · rw [xu_o _ _ _ (by omega), xu_o _ _ _ (by omega), xr_n _ _ (by omega)]
    · rw [xu_o _ _ _ (by omega), xu_o _ _ _ (by omega), xr_n _ _ (by omega)]
    · rw [xu_k _ _ _ e, xu_o _ _ _ (by decide), f1 33 (by decide)]
    · rw [xu_o _ _ _ (by decide), xu_k _ _ _ (by omega), f3 _ (by omega)]
    · rw [xu_o _ _ _ (show 49 + c ≠ 46 + c by omega), xu_o _ _ _ (show 32 ≠ 33 by decide)]
      by_cases e : k = 0
      · subst e
        exact ⟨b, hb, xu_s _ _ _ _, xu_s _ _ _ _⟩
      · rw [xu_k _ _ _ e, xu_k _ _ _ (by omega), xr_s, pk_cpy_in (by omega) (by omega), f2 _ (by omega) (by omega)]
        obtain ⟨x, hx, x1, x2⟩ := n3 (k - 1) (by omega)
        exact ⟨x, hx, by rw [show 0 + (k - 1) = k - 1 by omega]; exact x1, by rw [show 9 * c + k - 1 = 9 * c + (k - 1) by omega]; exact x2⟩
  · exact ⟨fun o ho => by rw [xu_o _ _ _ (by omega), xu_o _ _ _ (by omega), xr_n _ _ (by omega)], fun o ho => by rw [xu_o _ _ _ (by omega), xu_o _ _ _ (by omega), f1 o (by omega)]⟩
