/-! the small pure methods, of the class and of the reference, by one value each -/
def mixS (n x : Int32) : Int32 := ((x * (1103515245 : Int32)) + n) + (12345 : Int32)
def mixF (k n : Int32) : Int32 := (xsu (mixS n (mixS n (mixS n k))) (8 : Int32)) &&& (8388607 : Int32)
theorem s_TC_mix {k n : Int32} {post : Int32 → SI → SJ → Prop} {I : SI} {J : SJ} (h : post (mixF k n) I J) : p_TC_mix k n post I J := by
  intro x1 h1
  subst h1
  refine ⟨4, fun hc => absurd hc (by decide), fun _ x2 h2 x3 h3 => ?_⟩
  subst h2; subst h3
  refine ⟨fun hc => absurd hc (by decide), fun _ x2 h2 x3 h3 => ?_⟩
  subst h2; subst h3
  refine ⟨fun hc => absurd hc (by decide), fun _ x2 h2 x3 h3 => ?_⟩
  subst h2; subst h3
  exact ⟨fun _ => h, fun hc => absurd (by decide) hc⟩
theorem s_Md_mix {k n : Int32} {post : Int32 → SI → SJ → Prop} {I : SI} {J : SJ} (h : post (mixF k n) I J) : p_Md_mix k n post I J := by
  intro x1 h1
  subst h1
  refine ⟨4, fun hc => absurd hc (by decide), fun _ x2 h2 x3 h3 => ?_⟩
  subst h2; subst h3
  refine ⟨fun hc => absurd hc (by decide), fun _ x2 h2 x3 h3 => ?_⟩
  subst h2; subst h3
  refine ⟨fun hc => absurd hc (by decide), fun _ x2 h2 x3 h3 => ?_⟩
  subst h2; subst h3
  exact ⟨fun _ => h, fun hc => absurd (by decide) hc⟩
/-- the colour's row -/
def trS (r : Int32) : Int32 := (xsu r (1 : Int32)) ||| (xsl ((r ^^^ (xsu r (3 : Int32))) &&& (1 : Int32)) (6 : Int32))
def trL : Nat → Int32 → Int64 → Nat → Int64
  | 0, _, t, _ => t
  | n + 1, r, t, k => trL n (trS r) (t ||| (xll (Int32.toInt64 (r &&& (1 : Int32))) (nI k))) (k + 1)
def trn (c : Int32) : Int64 := trL 54 (((9 : Int32) * c) + (1 : Int32)) 0 0
theorem tr_C {p0 : Int32} {post : Int64 → SI → SJ → Prop} {I : SI} {J : SJ} : ∀ (n k : Nat) (r : Int32) (t : Int64), k + n = 54 → post (trL n r t k) I J → p_Co_colourRowZ_L12 p0 post (n + 1) r t (nI k) I J
  | 0, k, r, t, hk, h => by
    have e : k = 54 := by omega
    subst e
    exact ⟨fun _ => h, fun hc => absurd (by decide) hc⟩
  | n + 1, k, r, t, hk, h => by
    refine ⟨fun hc => absurd hc (nI_ge (a := k) (b := 54) (by omega) (by decide)), fun _ x4 h4 x5 h5 x6 h6 x7 h7 => ?_⟩
    subst h4; subst h5; subst h6; subst h7
    rw [nI_1]
    exact tr_C n (k + 1) _ _ (by omega) h
theorem s_Co_colourRow {c : Int32} {post : Int64 → SI → SJ → Prop} {I : SI} {J : SJ} (h : post (trn c) I J) : p_Co_colourRowZ c post I J := by
  intro x1 h1 x2 h2 x3 h3
  subst h1; subst h2; subst h3
  exact ⟨55, tr_C 54 0 _ _ rfl h⟩
/-- the reference's step, for a register of 7 bits -/
theorem tr_eq : ∀ r, r < 128 → ((((nI r) &&& (1 : Int32)) = ((xsr (nI r) (3 : Int32)) &&& (1 : Int32)) → (xsr (nI r) (1 : Int32)) + 0 = trS (nI r)) ∧ (¬ ((nI r) &&& (1 : Int32)) = ((xsr (nI r) (3 : Int32)) &&& (1 : Int32)) → (xsr (nI r) (1 : Int32)) + 64 = trS (nI r))) ∧ (((nI r) &&& (1 : Int32)) = 1 ∨ ((nI r) &&& (1 : Int32)) = 0) := by decide +kernel
theorem tr_in : ∀ r, r < 128 → ((trS (nI r)).toBitVec.toNat < 128 ∧ trS (nI r) = nI (trS (nI r)).toBitVec.toNat) := by decide +kernel
theorem xll_0 : ∀ k, k < 64 → xll (Int32.toInt64 0) (nI k) = 0 := by decide +kernel
theorem tr_M {p0 : Int32} {post : Int64 → SI → SJ → Prop} {I : SI} {J : SJ} : ∀ (n k r : Nat) (t : Int64), k + n = 54 → r < 128 → post (trL n (nI r) t k) I J → p_Md_turns_L12 p0 post (n + 1) (nI r) t (nI k) I J
  | 0, k, r, t, hk, hr, h => by
    have e : k = 54 := by omega
    subst e
    exact ⟨fun _ => h, fun hc => absurd (by decide) hc⟩
  | n + 1, k, r, t, hk, hr, h => by
    obtain ⟨⟨t1, t2⟩, t3⟩ := tr_eq r hr
    obtain ⟨i1, i2⟩ := tr_in r hr
    have key : ∀ t' : Int64, t' = t ||| (xll (Int32.toInt64 ((nI r) &&& (1 : Int32))) (nI k)) → p_Md_turns_33 p0 post (p_Md_turns_L12 p0 post (n + 1)) (nI r) t' (nI k) I J := by
      intro t' ht
      have h' : p_Md_turns_L12 p0 post (n + 1) (trS (nI r)) t' (nI (k + 1)) I J := by
        rw [i2]
        refine tr_M n (k + 1) _ t' (by omega) i1 ?_
        rw [← i2, ht]
        exact h
      refine ⟨fun hc x4 h4 x5 h5 => ?_, fun hc x4 h4 x5 h5 => ?_⟩
      · subst h4; subst h5
        rw [nI_1, t1 hc]
        exact h'
      · subst h4; subst h5
        rw [nI_1, t2 hc]
        exact h'
    refine ⟨fun hc => absurd hc (nI_ge (a := k) (b := 54) (by omega) (by decide)), fun _ => ⟨fun hc => ?_, fun hc x7 h7 => ?_⟩⟩
    · have e0 : ((nI r) &&& (1 : Int32)) = 0 := t3.resolve_left hc
      refine key t ?_
      rw [e0, xll_0 k (by omega)]
      exact (Int64.or_zero).symm
    · subst h7
      refine key _ ?_
      rw [hc]
      rfl
theorem s_Md_turns {c : Nat} (hc : c < 14) {post : Int64 → SI → SJ → Prop} {I : SI} {J : SJ} (h : post (trn (nI c)) I J) : p_Md_turns (nI c) post I J := by
  have e : ((9 : Int32) * nI c) + (1 : Int32) = nI (9 * c + 1) := by
    have : ∀ c, c < 14 → ((9 : Int32) * nI c) + (1 : Int32) = nI (9 * c + 1) := by decide +kernel
    exact this c hc
  intro x1 h1 x2 h2 x3 h3
  subst h1; subst h2; subst h3
  rw [e]
  refine ⟨55, tr_M 54 0 (9 * c + 1) 0 rfl (by omega) ?_⟩
  unfold trn at h
  rw [e] at h
  exact h
