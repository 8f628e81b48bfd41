/-! the reference's bursts -/
theorem sf_0 : ∀ s, s < 16 → ∀ b, b < 2 → ((nI b) ^^^ ((xsr (nI s) (2 : Int32)) &&& (1 : Int32))) ^^^ (xsr (nI s) (3 : Int32)) = nI (g0 (2 * s + b)) := by decide +kernel
theorem sf_1 : ∀ s, s < 16 → ∀ b, b < 2 → (((nI b) ^^^ ((nI s) &&& (1 : Int32))) ^^^ ((xsr (nI s) (1 : Int32)) &&& (1 : Int32))) ^^^ (xsr (nI s) (3 : Int32)) = nI (g1 (2 * s + b)) := by decide +kernel
theorem sf_n : ∀ s, s < 16 → ∀ b, b < 2 → ((xsl (nI s) (1 : Int32)) ||| (nI b)) &&& (15 : Int32) = nI ((2 * s + b) % 16) := by decide +kernel
theorem s_sentFor0 {s b : Nat} (hs : s < 16) (hb : b < 2) {post : Int32 → SI → SJ → Prop} {I : SI} {J : SJ} (h : post (nI (g0 (2 * s + b))) I J) : p_Md_sentFor (nI s) (nI b) (0 : Int32) post I J := by
  intro x1 h1 x2 h2 x3 h3 x4 h4
  subst h1; subst h2; subst h3; subst h4
  refine ⟨fun hc => absurd rfl hc, fun _ => ?_⟩
  rw [sf_0 s hs b hb]
  exact h
theorem s_sentFor1 {s b : Nat} (hs : s < 16) (hb : b < 2) {post : Int32 → SI → SJ → Prop} {I : SI} {J : SJ} (h : post (nI (g1 (2 * s + b))) I J) : p_Md_sentFor (nI s) (nI b) (1 : Int32) post I J := by
  intro x1 h1 x2 h2 x3 h3 x4 h4
  subst h1; subst h2; subst h3; subst h4
  refine ⟨fun _ => ?_, fun hc => absurd hc (by decide)⟩
  rw [sf_1 s hs b hb]
  exact h
theorem bx_0 (a : Int64) (p : Nat) : bx a 0 p = a := by
  unfold bx
  rw [Nat.zero_mul]
  exact Int64.xor_zero
theorem sx {K : Int64 → Prop} {a : Int64} {v i : Nat} (hv : v < 2) (hi : i < 1000) (h : K (bx a v (plc i))) : ((¬ nI v = (1 : Int32) → K a) ∧ (nI v = (1 : Int32) → ∀ x19, x19 = a ^^^ (xll (1 : Int64) (xrm ((17 : Int32) * nI i) (54 : Int32))) → K x19)) := by
  have hv' : v = 0 ∨ v = 1 := by omega
  rcases hv' with rfl | rfl
  · rw [bx_0] at h
    exact ⟨fun _ => h, fun hc => absurd hc (by decide)⟩
  · refine ⟨fun hc => absurd rfl hc, fun _ x19 h19 => ?_⟩
    have e : xrm ((17 : Int32) * nI i) (54 : Int32) = nI (plc i) := by
      rw [show (17 : Int32) * nI i = nI (17 * i) from pk_mul 17 i]
      exact xrm_N (by omega) (by decide) (by decide)
    have e2 : xll (1 : Int64) (nI (plc i)) = lN (1 * 2 ^ plc i) := xll_N 1 (Nat.lt_trans (plc_lt _) (by decide))
    rw [e, e2] at h19
    subst h19
    exact h
theorem w_split {w t : Nat} (ht : t < 36) : w / 2 ^ (35 - t) % 32 = 2 * (w / 2 ^ (36 - t) % 16) + w / 2 ^ (35 - t) % 2 := by
  have e : w / 2 ^ (36 - t) = w / 2 ^ (35 - t) / 2 := by
    rw [show 36 - t = (35 - t) + 1 by omega, Nat.pow_succ, ← Nat.div_div_eq_div_mul]
  rw [e]
  omega
theorem w_next {w t : Nat} (ht : t < 36) : (2 * (w / 2 ^ (36 - t) % 16) + w / 2 ^ (35 - t) % 2) % 16 = w / 2 ^ (36 - (t + 1)) % 16 := by
  rw [← w_split ht, show 36 - (t + 1) = 35 - t by omega]
  omega
theorem in_M {p0 p1 : Int32} {post : Int64 → SI → SJ → Prop} {K : Int64 → Int64 → Int32 → Int32 → Int32 → Int32 → SI → SJ → Prop} {I : SI} {J : SJ} {w t : Nat} (ht : t < 36) {a : Int64} (h : K (lN w) (bsS w t a) (nI (w / 2 ^ (36 - t) % 16)) (nI ((3 * (t + 1) + 1) / 2)) (nI t) (nI (w / 2 ^ (35 - t) % 2)) I J) :
    p_Md_burstOf_L51 p0 p1 post K 3 (lN w) a (nI (w / 2 ^ (36 - t) % 16)) (nI ((3 * t + 1) / 2)) (nI t) (nI (w / 2 ^ (35 - t) % 2)) (0 : Int32) I J := by
  unfold bsS at h
  rw [w_split ht] at h
  have hs16 : w / 2 ^ (36 - t) % 16 < 16 := Nat.mod_lt _ (by decide)
  have hb2 : w / 2 ^ (35 - t) % 2 < 2 := Nat.mod_lt _ (by decide)
  generalize w / 2 ^ (36 - t) % 16 = s at *
  generalize w / 2 ^ (35 - t) % 2 = b at *
  have m0 : (2 : Int32) * nI t + 0 = nI (2 * t) := by
    rw [show (2 : Int32) * nI t = nI (2 * t) from pk_mul 2 t]
    exact (nI_add (2 * t) 0)
  have m1 : (2 : Int32) * nI t + (0 + 1) = nI (2 * t + 1) := by
    rw [show (2 : Int32) * nI t = nI (2 * t) from pk_mul 2 t]
    exact (nI_add (2 * t) 1)
  have r0 : xrm (nI (2 * t)) (4 : Int32) = nI (2 * t % 4) := xrm_N (by omega) (by decide) (by decide)
  have r1 : xrm (nI (2 * t + 1)) (4 : Int32) = nI ((2 * t + 1) % 4) := xrm_N (by omega) (by decide) (by decide)
  refine ⟨fun hc => absurd hc (by decide), fun _ x13 e13 => ⟨fun hc => ?_, fun _ => ?_⟩⟩
  · subst e13
    rw [m0, r0] at hc
    have h3 : 2 * t % 4 = 3 := (nI_eq (b := 3) (by omega) (by decide)).mp hc
    omega
  subst e13
  refine s_sentFor0 hs16 hb2 ?_
  refine sx (K := fun z => p_Md_burstOf_102 p0 p1 post (p_Md_burstOf_L51 p0 p1 post K 2) (lN w) z (nI s) (nI ((3 * t + 1) / 2)) (nI t) (nI b) 0 I J) (i := (3 * t + 1) / 2) (g0_lt _) (by omega) ?_
  intro x18 e18 x14 e14
  subst e18; subst e14
  refine ⟨fun hc => absurd hc (by decide), fun _ x13 e13 => ⟨fun hc => ?_, fun hc => ?_⟩⟩
  · subst e13
    rw [m1, r1] at hc
    have hodd : t % 2 = 1 := by
      have := (nI_eq (b := 3) (by omega) (by decide)).mp hc
      omega
    rw [if_neg (by omega)] at h
    intro x14 e14
    subst e14
    refine ⟨fun _ => ?_, fun hc => absurd (by decide) hc⟩
    rw [nI_1, show (3 * t + 1) / 2 + 1 = (3 * (t + 1) + 1) / 2 by omega]
    exact h
  · subst e13
    rw [m1, r1] at hc
    have heven : t % 2 = 0 := by
      have h1 : ¬ (2 * t + 1) % 4 = 3 := fun e => hc (by rw [e]; rfl)
      omega
    rw [if_pos heven] at h
    refine s_sentFor1 hs16 hb2 ?_
    rw [nI_1]
    refine sx (K := fun z => p_Md_burstOf_102 p0 p1 post (p_Md_burstOf_L51 p0 p1 post K 1) (lN w) z (nI s) (nI ((3 * t + 1) / 2 + 1)) (nI t) (nI b) (0 + 1) I J) (i := (3 * t + 1) / 2 + 1) (g1_lt _) (by omega) ?_
    intro x18 e18 x14 e14
    subst e18; subst e14
    refine ⟨fun _ => ?_, fun hc => absurd (by decide) hc⟩
    rw [nI_1, show (3 * t + 1) / 2 + 1 + 1 = (3 * (t + 1) + 1) / 2 by omega]
    exact h
theorem w_bit {w t : Nat} (hw : w < 2 ^ 36) (ht : t < 36) : (Int64.toInt32 (xlr (lN w) ((35 : Int32) - nI t))) &&& (1 : Int32) = nI (w / 2 ^ (35 - t) % 2) := by
  rw [show (35 : Int32) - nI t = nI (35 - t) from pk_sub (a := 35) (by omega), xlr_N (by omega) (by omega), lN_i, pk_and _ (m := 1) 1 (by decide)]
  congr 1
  show (BitVec.ofNat 32 _).toNat % 2 = _
  rw [BitVec.toNat_ofNat]
  omega
theorem bs_M {p0 p1 : Int32} {post : Int64 → SI → SJ → Prop} {I : SI} {J : SJ} {w : Nat} (hw : w < 2 ^ 36) : ∀ (n t : Nat) (a : Int64), t + n = 36 → post (bsL w n t a) I J → p_Md_burstOf_L29 p0 p1 post (n + 1) (lN w) a (nI (w / 2 ^ (36 - t) % 16)) (nI ((3 * t + 1) / 2)) (nI t) I J
  | 0, t, a, ht, h => by
    have e : t = 36 := by omega
    subst e
    exact ⟨fun _ => h, fun hc => absurd (by decide) hc⟩
  | n + 1, t, a, ht, h => by
    refine ⟨fun hc => absurd hc (nI_ge (a := t) (b := 36) (by omega) (by decide)), fun _ x11 e11 x12 e12 => ⟨3, ?_⟩⟩
    rw [w_bit hw (by omega)] at e11
    subst e11; subst e12
    refine in_M (by omega) ?_
    intro x31 e31 x32 e32
    rw [sf_n _ (Nat.mod_lt _ (by decide)) _ (Nat.mod_lt _ (by decide)), w_next (by omega)] at e31
    subst e31; subst e32
    rw [nI_1]
    exact bs_M hw n (t + 1) _ (by omega) h
theorem s_Md_burstOf {b c : Nat} (hb : b < 2 ^ 20) (hc : c < 14) {post : Int64 → SI → SJ → Prop} {I : SI} {J : SJ} (h : post (bsF (wdN b) (trn (nI c))) I J) : p_Md_burstOf (nI b) (nI c) post I J := by
  refine s_Md_check hb ?_
  intro x4 e4
  rw [wd_eq hb] at e4
  subst e4
  refine s_Md_turns hc ?_
  intro x8 e8 x9 e9 x10 e10
  subst e8; subst e9; subst e10
  have e0 : (0 : Int32) = nI (wdN b / 2 ^ (36 - 0) % 16) := by
    have := wdN_lt hb
    rw [Nat.div_eq_of_lt this]
    rfl
  refine ⟨37, ?_⟩
  have := bs_M (p0 := nI b) (p1 := nI c) (wdN_lt hb) 36 0 _ rfl h
  rw [← e0] at this
  exact this
