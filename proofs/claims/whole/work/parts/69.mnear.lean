/-! the reference's search finds vC 36 0 and vL 36 0 -/
def sn (P : Nat) (I : SI) (i : Nat) : Prop := I 1 i = if i % 4 = 3 then (-1 : Int32) else nI (rb P (i - i / 4))
theorem bit_M {P i : Nat} (hP : P < 2 ^ 62) (hi : i < 1000) : (Int64.toInt32 (xlr (lN P) (xrm ((17 : Int32) * nI i) (54 : Int32)))) &&& (1 : Int32) = nI (rb P i) := by
  have e : xrm ((17 : Int32) * nI i) (54 : Int32) = nI (plc i) := by
    rw [show (17 : Int32) * nI i = nI (17 * i) from pk_mul 17 i]
    exact xrm_N (by omega) (by decide) (by decide)
  rw [e, xlr_N hP (Nat.lt_trans (plc_lt _) (by decide)), lN_i, pk_and _ (m := 1) 1 (by decide)]
  congr 1
  show (BitVec.ofNat 32 _).toNat % 2 = _
  rw [BitVec.toNat_ofNat]
  unfold rb
  omega
theorem sn_loop {P : Nat} (hP : P < 2 ^ 62) {p1 : Int64} {p3 : Int32} {post : SI → SJ → Prop} {k67 : SI → SJ → Prop} {I0 : SI} {J : SJ} (h : ∀ I' : SI, (∀ o, o ≠ 1 → I' o = I0 o) → (∀ i, i < 72 → sn P I' i) → k67 I' J) :
    ∀ (n i : Nat) (I : SI), i + n = 72 → (∀ o, o ≠ 1 → I o = I0 o) → (∀ k, k < i → sn P I k) → p_Md_nearest_L14 p1 p3 post k67 (n + 1) (lN P) (nI (i - i / 4)) (nI i) I J
  | 0, i, I, hi, hI, hd => by
    have e : i = 72 := by omega
    subst e
    exact ⟨fun _ => h I hI hd, fun hc => absurd (by decide) hc⟩
  | n + 1, i, I, hi, hI, hd => by
    refine ⟨fun hc => absurd hc (nI_ge (a := i) (b := 72) (by omega) (by decide)), fun _ => ⟨i, rfl, by omega, fun I8 e8 => ?_⟩⟩
    have er : xrm (nI i) (4 : Int32) = nI (i % 4) := xrm_N (by omega) (by decide) (by decide)
    rw [er]
    refine pk_eq (i % 4) 3 (fun h3 => ?_) (fun h3 => ⟨i, rfl, by omega, fun I11 e11 x12 e12 => ?_⟩)
    · intro x9 e9
      subst e9
      rw [nI_1, show i - i / 4 = (i + 1) - (i + 1) / 4 by omega]
      refine sn_loop hP h n (i + 1) I8 (by omega) (fun o ho => ?_) (fun k hk => ?_)
      · rw [e8, xu_o I i _ ho]
        exact hI o ho
      · by_cases hki : k = i
        · subst hki
          unfold sn
          rw [e8, xu_s, if_pos h3]
        · have := hd k (by omega)
          unfold sn at this ⊢
          rw [e8, xu_k I 1 _ hki]
          exact this
    · rw [bit_M hP (by omega)] at e11
      subst e12
      intro x9 e9
      subst e9
      rw [nI_1, nI_1, show i - i / 4 + 1 = (i + 1) - (i + 1) / 4 by omega]
      refine sn_loop hP h n (i + 1) I11 (by omega) (fun o ho => ?_) (fun k hk => ?_)
      · rw [e11, xu_o I8 i _ ho, e8, xu_o I i _ ho]
        exact hI o ho
      · by_cases hki : k = i
        · subst hki
          unfold sn
          rw [e11, xu_s, if_neg h3]
        · have := hd k (by omega)
          unfold sn at this ⊢
          rw [e11, xu_k I8 1 _ hki, e8, xu_k I 1 _ hki]
          exact this
theorem s_Md_misses {P : Nat} {I : SI} {J : SJ} (hsn : ∀ i, i < 72 → sn P I i) {t s b : Nat} (ht : t < 36) (hs : s < 16) (hb : b < 2) {post : Int32 → SI → SJ → Prop} (h : post (nI (mmN P t s b)) I J) : p_Md_misses (nI t) (nI s) (nI b) post I J := by
  have a0 := hsn (2 * t) (by omega)
  have a1 := hsn (2 * t + 1) (by omega)
  unfold sn at a0 a1
  rw [if_neg (by omega), show 2 * t - 2 * t / 4 = (3 * t + 1) / 2 by omega] at a0
  have m0 : (2 : Int32) * nI t + 0 = nI (2 * t) := by
    rw [show (2 : Int32) * nI t = nI (2 * t) from pk_mul 2 t]
    exact (nI_add (2 * t) 0)
  have m1 : (2 : Int32) * nI t + (0 + 1) = nI (2 * t + 1) := by
    rw [show (2 : Int32) * nI t = nI (2 * t) from pk_mul 2 t]
    exact (nI_add (2 * t) 1)
  have r0 := rb_lt P ((3 * t + 1) / 2)
  have r1 := rb_lt P ((3 * t + 1) / 2 + 1)
  have q0 := g0_lt (2 * s + b)
  have q1 := g1_lt (2 * s + b)
  unfold mmN at h
  -- the second of the two
  have second : ∀ m : Nat, m < 2 → post (nI (m + (if t % 2 = 0 then (if rb P ((3 * t + 1) / 2 + 1) = g1 (2 * s + b) then 0 else 1) else 0))) I J → p_Md_misses_L6 (nI t) (nI s) (nI b) post 2 (nI m) (0 + 1) I J := by
    intro m hm hp
    refine ⟨fun hc => absurd hc (by decide), fun _ => ⟨2 * t + 1, m1, by omega, fun hc => ?_, fun hc => ?_⟩⟩
    · intro x4 e4
      subst e4
      refine ⟨fun _ => ?_, fun hc => absurd (by decide) hc⟩
      by_cases he : t % 2 = 0
      · rw [a1, if_neg (by omega)] at hc
        exact absurd hc (nI_pos (Nat.lt_trans (rb_lt _ _) (by decide)))
      · rw [if_neg he] at hp
        exact hp
    · by_cases he : t % 2 = 0
      · rw [if_pos he] at hp
        rw [if_neg (by omega), show 2 * t + 1 - (2 * t + 1) / 4 = (3 * t + 1) / 2 + 1 by omega] at a1
        refine ⟨2 * t + 1, m1, by omega, s_sentFor1 hs hb ?_⟩
        rw [a1]
        refine pk_eq (rb P ((3 * t + 1) / 2 + 1)) (g1 (2 * s + b)) (fun e => ?_) (fun e x9 e9 => ?_)
        · intro x4 e4
          subst e4
          refine ⟨fun _ => ?_, fun hc => absurd (by decide) hc⟩
          rw [if_pos e] at hp
          exact hp
        · intro x4 e4
          subst e4; subst e9
          refine ⟨fun _ => ?_, fun hc => absurd (by decide) hc⟩
          rw [if_neg e] at hp
          rw [nI_1]
          exact hp
      · rw [a1, if_pos (by omega)] at hc
        exact absurd (by decide) hc
  intro x1 e1 x2 e2
  subst e1; subst e2
  refine ⟨3, fun hc => absurd hc (by decide), fun _ => ⟨2 * t, m0, by omega, fun hc => ?_, fun _ => ⟨2 * t, m0, by omega, s_sentFor0 hs hb ?_⟩⟩⟩
  · rw [a0] at hc
    exact absurd hc (nI_pos (by omega))
  · rw [a0]
    refine pk_eq (rb P ((3 * t + 1) / 2)) (g0 (2 * s + b)) (fun e => ?_) (fun e x9 e9 => ?_)
    · intro x4 e4
      subst e4
      rw [if_pos e] at h
      exact second 0 (by decide) h
    · intro x4 e4
      subst e4; subst e9
      rw [if_neg e] at h
      exact second 1 (by decide) h
theorem z_loop {p1 : Int64} {p3 : Int32} {post : SI → SJ → Prop} {k : SI → SJ → Prop} {I0 : SI} {J : SJ} (h : ∀ I' : SI, (∀ o, o ≠ 2 → I' o = I0 o) → (∀ s, s < 16 → I' 2 (576 + s) = nI 0) → k I' J) :
    ∀ (n i : Nat) (I : SI), i + n = 16 → (∀ o, o ≠ 2 → I o = I0 o) → (∀ s, s < i → I 2 (576 + s) = nI 0) → p_Md_nearest_L70 p1 p3 post k (n + 1) (nI i) I J
  | 0, i, I, hi, hI, hd => by
    have e : i = 16 := by omega
    subst e
    exact ⟨fun _ => h I hI hd, fun hc => absurd (by decide) hc⟩
  | n + 1, i, I, hi, hI, hd => by
    refine ⟨fun hc => absurd hc (nI_ge (a := i) (b := 16) (by omega) (by decide)), fun _ => ⟨576 + i, nI_add 576 i, by omega, fun I19 e19 x20 e20 => ?_⟩⟩
    subst e20
    rw [nI_1]
    refine z_loop h n (i + 1) I19 (by omega) (fun o ho => ?_) (fun s hs => ?_)
    · rw [e19, xu_o I _ _ ho]
      exact hI o ho
    · rw [e19]
      by_cases hsi : s = i
      · subst hsi
        exact xu_s I 2 _ _
      · rw [xu_k I 2 _ (show 576 + s ≠ 576 + i by omega)]
        exact hd s (by omega)
/-- the reference's table from row t on -/
def cst (P : Nat) (I : SI) (t : Nat) : Prop := ∀ u, t ≤ u → u ≤ 36 → ∀ s, s < 16 → I 2 (16 * u + s) = nI (vC (mmN P) (36 - u) s)
theorem ix_s : ∀ s, s < 16 → (xsl (nI s) (1 : Int32)) &&& (15 : Int32) = nI (2 * s % 16) := by decide +kernel
theorem ix_s1 : ∀ s, s < 16 → ((xsl (nI s) (1 : Int32)) &&& (15 : Int32)) ||| (1 : Int32) = nI ((2 * s + 1) % 16) := by decide +kernel
theorem ix_t (t j : Nat) : (((16 : Int32) * nI t) + (16 : Int32)) + nI j = nI (16 * (t + 1) + j) := by
  rw [show (16 : Int32) * nI t = nI (16 * t) from pk_mul 16 t, show nI (16 * t) + (16 : Int32) = nI (16 * t + 16) from nI_add _ 16, nI_add]
  congr 1
theorem ix_u (t j : Nat) : ((16 : Int32) * nI t) + nI j = nI (16 * t + j) := by
  rw [show (16 : Int32) * nI t = nI (16 * t) from pk_mul 16 t, nI_add]
theorem mn_in {P t : Nat} (ht : t < 36) {p1 : Int64} {p3 : Int32} {post : SI → SJ → Prop} {k : Int32 → SI → SJ → Prop} {I0 : SI} {J : SJ} (hsn : ∀ i, i < 72 → sn P I0 i) (h : ∀ I' : SI, (∀ o, o ≠ 2 → I' o = I0 o) → cst P I' t → k (nI t) I' J) :
    ∀ (n s : Nat) (I : SI), s + n = 16 → (∀ o, o ≠ 2 → I o = I0 o) → cst P I (t + 1) → (∀ r, r < s → I 2 (16 * t + r) = nI (vC (mmN P) (36 - t) r)) → p_Md_nearest_L107 p1 p3 post k (n + 1) (nI t) (nI s) I J
  | 0, s, I, hs, hI, hc, hd => by
    have e : s = 16 := by omega
    subst e
    refine ⟨fun _ => h I hI (fun u h1 h2 r hr => ?_), fun hc => absurd (by decide) hc⟩
    by_cases hu : u = t
    · subst hu
      exact hd r hr
    · exact hc u (by omega) h2 r hr
  | n + 1, s, I, hs, hI, hc, hd => by
    have hs16 : s < 16 := by omega
    have hsn' : ∀ i, i < 72 → sn P I i := fun i hi => by
      have := hsn i hi
      unfold sn at this ⊢
      rw [hI 1 (by decide)]
      exact this
    have put : ∀ v : Nat, v = vC (mmN P) (36 - t) s → p_Md_nearest_221 p1 p3 post (p_Md_nearest_L107 p1 p3 post k (n + 1)) (nI t) (nI s) (nI v) (((16 : Int32) * nI t) + nI s) I J := by
      intro v hv
      refine ⟨16 * t + s, ix_u t s, by omega, fun I32 e32 x33 e33 => ?_⟩
      subst e33
      rw [nI_1]
      refine mn_in ht hsn h n (s + 1) I32 (by omega) (fun o ho => ?_) (fun u h1 h2 r hr => ?_) (fun r hr => ?_)
      · rw [e32, xu_o I _ _ ho]
        exact hI o ho
      · rw [e32, xu_k I 2 _ (show 16 * u + r ≠ 16 * t + s by omega)]
        exact hc u h1 h2 r hr
      · rw [e32]
        by_cases hrs : r = s
        · subst hrs
          rw [xu_s, hv]
        · rw [xu_k I 2 _ (show 16 * t + r ≠ 16 * t + s by omega)]
          exact hd r (by omega)
    have ek : 36 - t = (35 - t) + 1 := by omega
    have e35 : 35 - (35 - t) = t := by omega
    have c0 := vC_le (mmN P) (mmN_le P) (35 - t) (2 * s % 16)
    have c1 := vC_le (mmN P) (mmN_le P) (35 - t) ((2 * s + 1) % 16)
    have m0 := mmN_le P t s 0
    have m1 := mmN_le P t s 1
    have i0 := hc (t + 1) (by omega) (by omega) (2 * s % 16) (Nat.mod_lt _ (by decide))
    have i1 := hc (t + 1) (by omega) (by omega) ((2 * s + 1) % 16) (Nat.mod_lt _ (by decide))
    rw [show 36 - (t + 1) = 35 - t by omega] at i0 i1
    rw [ek] at put
    unfold vC at put
    rw [e35] at put
    refine ⟨fun hc => absurd hc (nI_ge (a := s) (b := 16) hs16 (by decide)), fun _ => ?_⟩
    refine s_Md_misses (b := 0) hsn' ht hs16 (by decide) ?_
    refine ⟨16 * (t + 1) + 2 * s % 16, by rw [ix_s s hs16, ix_t], by omega, fun x30 e30 => ?_⟩
    rw [i0, nI_add] at e30
    subst e30
    refine pk_le 32 t (fun h32 => ?_) (fun h32 => ?_)
    · rw [if_pos (by omega)] at put
      refine pk_lt 1000 (mmN P t s 0 + vC (mmN P) (35 - t) (2 * s % 16)) (fun hl => by omega) (fun _ => put _ rfl)
    · rw [if_neg (by omega)] at put
      refine s_Md_misses (b := 1) hsn' ht hs16 (by decide) ?_
      refine ⟨16 * (t + 1) + (2 * s + 1) % 16, by rw [ix_s1 s hs16, ix_t], by omega, ?_⟩
      rw [i1, nI_add]
      refine pk_lt (mmN P t s 1 + vC (mmN P) (35 - t) ((2 * s + 1) % 16)) (mmN P t s 0 + vC (mmN P) (35 - t) (2 * s % 16)) (fun hl => put _ (Nat.min_eq_right (by omega)).symm) (fun hl => put _ (Nat.min_eq_left (by omega)).symm)
theorem mn_out {P : Nat} {p1 : Int64} {p3 : Int32} {post : SI → SJ → Prop} {k : SI → SJ → Prop} {I0 : SI} {J : SJ} (hsn : ∀ i, i < 72 → sn P I0 i) (h : ∀ I' : SI, (∀ o, o ≠ 2 → I' o = I0 o) → cst P I' 0 → k I' J) :
    ∀ (n : Nat) (I : SI), n ≤ 36 → (∀ o, o ≠ 2 → I o = I0 o) → cst P I n → p_Md_nearest_L99 p1 p3 post k (n + 1) (nI n + (-1 : Int32)) I J
  | 0, I, _, hI, hc => ⟨fun _ => h I hI hc, fun hn => absurd (by decide) hn⟩
  | n + 1, I, hn, hI, hc => by
    rw [pk_m1]
    refine ⟨fun hl => absurd hl (nI_pos (by omega)), fun _ x25 e25 => ⟨17, ?_⟩⟩
    subst e25
    refine mn_in (I0 := I) (by omega) (fun i hi => ?_) (fun I' hI' hc' => ?_) 16 0 I rfl (fun _ _ => rfl) hc (fun r hr => absurd hr (by omega))
    · have := hsn i hi
      unfold sn at this ⊢
      rw [hI 1 (by decide)]
      exact this
    · intro x44 e44
      subst e44
      exact mn_out hsn h n I' (by omega) (fun o ho => (hI' o ho).trans (hI o ho)) hc'
theorem two_or {w b : Nat} (hw : w < 2 ^ 36) (hb : b < 2) : (xll (lN w) (1 : Int32)) ||| (Int32.toInt64 (nI b)) = lN (2 * w + b) := by
  rw [show xll (lN w) (1 : Int32) = lN (w * 2 ^ 1) from xll_N w (by decide), nI_l (by omega), g_or (k := 1) rfl hb (by omega)]
  congr 1
  omega
theorem rd_loop {P : Nat} {p1 : Int64} {p3 : Int32} {post : SI → SJ → Prop} {I : SI} {J0 : SJ} (hsn : ∀ i, i < 72 → sn P I i) (hc : cst P I 0) (h : ∀ J' : SJ, (∀ o, o ≠ 0 → J' o = J0 o) → (∀ k, k ≠ 3 → J' 0 k = J0 0 k) → J' 0 3 = lN (vL (mmN P) 36 0) → post I J') :
    ∀ (n t s w : Nat) (J : SJ), t + n = 36 → s < 16 → w < 2 ^ t → w * 2 ^ n + vL (mmN P) n s = vL (mmN P) 36 0 → (∀ o, o ≠ 0 → J o = J0 o) → (∀ k, k ≠ 3 → J 0 k = J0 0 k) → J 0 3 = lN w → p_Md_nearest_L255 p1 p3 post (n + 1) (nI s) (nI t) I J
  | 0, t, s, w, J, ht, hs, hw, hl, h1, h2, h3 => by
    have e : t = 36 := by omega
    subst e
    refine ⟨fun _ => h J h1 h2 ?_, fun hc => absurd (by decide) hc⟩
    rw [h3, ← hl]
    congr 1
    show w = w * 1 + 0
    omega
  | n + 1, t, s, w, J, ht, hs, hw, hl, h1, h2, h3 => by
    have hw36 : w < 2 ^ 36 := Nat.lt_of_lt_of_le hw (Nat.pow_le_pow_right (by decide) (by omega))
    have go : ∀ b : Nat, b < 2 → (2 * w + b) * 2 ^ n + vL (mmN P) n ((2 * s + b) % 16) = vL (mmN P) 36 0 → p_Md_nearest_318 p1 p3 post (p_Md_nearest_L255 p1 p3 post (n + 1)) (nI s) (nI t) (nI b) I J := by
      intro b hb hl' J59 e59 x60 e60 x61 e61
      rw [sf_n s hs b hb] at e60
      rw [h3, two_or hw36 hb] at e59
      subst e60; subst e61
      rw [nI_1]
      refine rd_loop hsn hc h n (t + 1) ((2 * s + b) % 16) (2 * w + b) J59 (by omega) (Nat.mod_lt _ (by decide)) (by rw [Nat.pow_succ]; omega) hl' (fun o ho => ?_) (fun k hk => ?_) ?_
      · rw [e59, xv_o J _ _ ho]
        exact h1 o ho
      · rw [e59, xv_k J 0 _ hk]
        exact h2 k hk
      · rw [e59, xv_s]
    have en : n = 35 - t := by omega
    have et : 35 - n = t := by omega
    have c0 := vC_le (mmN P) (mmN_le P) n (2 * s % 16)
    have c1 := vC_le (mmN P) (mmN_le P) n ((2 * s + 1) % 16)
    have m0 := mmN_le P t s 0
    have m1 := mmN_le P t s 1
    have i0 := hc (t + 1) (by omega) (by omega) (2 * s % 16) (Nat.mod_lt _ (by decide))
    have i1 := hc t (by omega) (by omega) s hs
    rw [show 36 - (t + 1) = n by omega] at i0
    rw [show 36 - t = n + 1 by omega] at i1
    have hv : vC (mmN P) (n + 1) s ≤ 2 * (n + 1) := vC_le (mmN P) (mmN_le P) (n + 1) s
    have hvC : vC (mmN P) (n + 1) s = if n < 4 then mmN P t s 0 + vC (mmN P) n (2 * s % 16) else min (mmN P t s 0 + vC (mmN P) n (2 * s % 16)) (mmN P t s 1 + vC (mmN P) n ((2 * s + 1) % 16)) := by
      rw [vC, et]
    rw [vL, et] at hl
    refine ⟨fun hc => absurd hc (nI_ge (a := t) (b := 36) (by omega) (by decide)), fun _ => ?_⟩
    refine s_Md_misses (b := 0) hsn (by omega) hs (by decide) ?_
    refine ⟨16 * (t + 1) + 2 * s % 16, by rw [ix_s s hs, ix_t], by omega, fun x57 e57 => ⟨16 * t + s, ix_u t s, by omega, ?_⟩⟩
    rw [i0, nI_add] at e57
    subst e57
    rw [i1]
    refine (pk_eq (mmN P t s 0 + vC (mmN P) n (2 * s % 16)) (vC (mmN P) (n + 1) s) (fun e => ?_) (fun e => ?_)).symm
    · refine go 0 (by decide) ?_
      rw [if_pos ?_] at hl
      · rw [← hl, Nat.pow_succ]
        have : (2 * w + 0) * 2 ^ n = w * (2 ^ n * 2) := by
          rw [Nat.add_zero, Nat.mul_comm 2 w, Nat.mul_assoc, Nat.mul_comm 2]
        rw [this, Nat.add_zero]
      · by_cases h4 : n < 4
        · exact Or.inl h4
        · rw [if_neg h4] at hvC
          omega
    · refine go 1 (by decide) ?_
      rw [if_neg ?_] at hl
      · rw [← hl, Nat.pow_succ]
        have : (2 * w + 1) * 2 ^ n = w * (2 ^ n * 2) + 2 ^ n := by
          rw [Nat.add_mul, Nat.one_mul, Nat.mul_comm 2 w, Nat.mul_assoc, Nat.mul_comm 2]
        omega
      · intro hcc
        by_cases h4 : n < 4
        · rw [if_pos h4] at hvC
          exact e hvC.symm
        · rw [if_neg h4] at hvC
          rcases hcc with h | h
          · exact h4 h
          · rw [Nat.min_eq_left h] at hvC
            exact e hvC.symm
theorem s_Md_nearest {P c : Nat} (hP : P < 2 ^ 62) (hc : c < 14) {p1 : Int64} (eP : p1 ^^^ trn (nI c) = lN P) {post : SI → SJ → Prop} {I : SI} {J : SJ}
    (h : ∀ (I' : SI) (J' : SJ), (∀ o, o ≠ 0 → o ≠ 1 → o ≠ 2 → I' o = I o) → (∀ k, k ≠ 4 → I' 0 k = I 0 k) → I' 0 4 = nI (vC (mmN P) 36 0) → (∀ o, o ≠ 0 → J' o = J o) → (∀ k, k ≠ 3 → J' 0 k = J 0 k) → J' 0 3 = lN (vL (mmN P) 36 0) → post I' J') : p_Md_nearest p1 (nI c) post I J := by
  refine s_Md_turns hc ?_
  intro x4 e4 x5 e5 x6 e6
  rw [eP] at e4
  subst e4; subst e5; subst e6
  refine ⟨73, sn_loop hP (I0 := I) (fun I1 a1 a2 => ?_) 72 0 I rfl (fun _ _ => rfl) (fun k hk => absurd hk (by omega))⟩
  intro x17 e17
  subst e17
  refine ⟨17, z_loop (I0 := I1) (fun I2 b1 b2 => ?_) 16 0 I1 rfl (fun _ _ => rfl) (fun k hk => absurd hk (by omega))⟩
  intro x24 e24
  have e24' : x24 = nI 36 + (-1 : Int32) := e24.trans (by decide)
  subst e24'
  have sn2 : ∀ i, i < 72 → sn P I2 i := fun i hi => by
    have := a2 i hi
    unfold sn at this ⊢
    rw [b1 1 (by decide)]
    exact this
  refine ⟨37, mn_out sn2 (fun I3 d1 d2 => ?_) 36 I2 (by decide) (fun _ _ => rfl) (fun u h1 h2 s hs => ?_)⟩
  · intro I49 e49 J50 e50 x51 e51 x52 e52
    subst e51; subst e52
    have k49 : ∀ o, o ≠ 0 → I49 o = I3 o := fun o ho => by rw [e49, xu_o I3 _ _ ho]
    refine ⟨37, rd_loop (P := P) (J0 := J50) (fun i hi => ?_) (fun u h1 h2 s hs => ?_) (fun J' f1 f2 f3 => ?_) 36 0 0 0 J50 rfl (by decide) (by decide) (by rw [Nat.zero_mul, Nat.zero_add]) (fun _ _ => rfl) (fun _ _ => rfl) ?_⟩
    · have := sn2 i hi
      unfold sn at this ⊢
      rw [k49 1 (by decide), d1 1 (by decide)]
      exact this
    · rw [k49 2 (by decide)]
      exact d2 u h1 h2 s hs
    · refine h I49 J' (fun o h0 h1 h2 => ?_) (fun k hk => ?_) ?_ (fun o ho => ?_) (fun k hk => ?_) f3
      · rw [k49 o h0, d1 o h2, b1 o h2, a1 o h1]
      · rw [e49, xu_k I3 0 _ hk, d1 0 (by decide), b1 0 (by decide), a1 0 (by decide)]
      · rw [e49, xu_s]
        exact d2 0 (by decide) (by decide) 0 (by decide)
      · rw [f1 o ho, e50, xv_o J _ _ ho]
      · rw [f2 k hk, e50, xv_k J 0 _ hk]
    · rw [e50, xv_s]
      rfl
  · have e : u = 36 := by omega
    subst e
    rw [show 16 * 36 + s = 576 + s by omega, b2 s hs]
    rfl
