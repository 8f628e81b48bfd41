/-! the class's search finds vK 36 0 -/
def rb (P i : Nat) : Nat := P / 2 ^ plc i % 2
def mmN (P t s b : Nat) : Nat := (if rb P ((3 * t + 1) / 2) = g0 (2 * s + b) then 0 else 1) + (if t % 2 = 0 then (if rb P ((3 * t + 1) / 2 + 1) = g1 (2 * s + b) then 0 else 1) else 0)
theorem mmN_le (P t s b : Nat) : mmN P t s b ≤ 2 := by
  unfold mmN
  split <;> split <;> (try split) <;> omega
theorem rb_lt (P i : Nat) : rb P i < 2 := Nat.mod_lt _ (by decide)
theorem cs_even : ∀ j, j < 32 → ∀ r0, r0 < 2 → ∀ r1, r1 < 2 → csN (r0 + 2 * r1) 2 j = (if r0 = g0 j then 0 else 1) + (if r1 = g1 j then 0 else 1) := by decide +kernel
theorem cs_odd : ∀ j, j < 32 → ∀ r0, r0 < 2 → csN r0 1 j = (if r0 = g0 j then 0 else 1) := by decide +kernel
theorem pair_N : ∀ r0, r0 < 2 → ∀ r1, r1 < 2 → (nI r0) ||| (xsl (nI r1) (1 : Int32)) = nI (r0 + 2 * r1) := by decide +kernel
theorem bit_N {P i : Nat} (hP : P < 2 ^ 64) : Int64.toInt32 ((xlu (lN P) (nI (plc i))) &&& (1 : Int64)) = nI (rb P i) := by
  rw [show (xlu (lN P) (nI (plc i))) &&& (1 : Int64) = lN (P / 2 ^ plc i % 2) from wb_bit hP (Nat.lt_trans (plc_lt _) (by decide)), lN_i]
  rfl
theorem vK_bd (P : Nat) : ∀ t s, t ≤ 36 → vK (mmN P) t s ≤ 1099511627776 * (1000 + 3 * t)
  | 0, s, _ => by
    show (if s = 0 then 0 else 1099511627776000) ≤ _
    split <;> omega
  | t + 1, s, ht => by
    rw [vK_step]
    have h1 := vK_bd P t (s / 2) (by omega)
    have h2 := mmN_le P t (s / 2) (s % 2)
    have h3 := Nat.min_le_left (vK (mmN P) t (s / 2) + 1099511627776 * mmN P t (s / 2) (s % 2)) (vK (mmN P) t (s / 2 + 8) + 1099511627776 * mmN P t (s / 2 + 8) (s % 2))
    have h4 : 2 ^ (35 - t) ≤ 34359738368 := Nat.pow_le_pow_right (n := 2) (by decide) (by omega : 35 - t ≤ 35)
    have h5 : s % 2 * 2 ^ (35 - t) ≤ 34359738368 := by
      have : s % 2 = 0 ∨ s % 2 = 1 := by omega
      rcases this with e | e <;> rw [e] <;> omega
    generalize s % 2 * 2 ^ (35 - t) = a1 at *
    generalize min (vK (mmN P) t (s / 2) + 1099511627776 * mmN P t (s / 2) (s % 2)) (vK (mmN P) t (s / 2 + 8) + 1099511627776 * mmN P t (s / 2 + 8) (s % 2)) = a2 at *
    generalize vK (mmN P) t (s / 2) = a3 at *
    generalize mmN P t (s / 2) (s % 2) = a4 at *
    omega
theorem vK_st0 {P t s : Nat} (hs : s < 16) (he : t % 2 = 0) : stK (vK (mmN P) t) (rb P ((3 * t + 1) / 2) + 2 * rb P ((3 * t + 1) / 2 + 1)) 2 (2 ^ (35 - t)) s = vK (mmN P) (t + 1) s := by
  rw [vK_step]
  unfold stK
  rw [cs_even s (by omega) _ (rb_lt _ _) _ (rb_lt _ _), cs_even (s + 16) (by omega) _ (rb_lt _ _) _ (rb_lt _ _)]
  have e1 : mmN P t (s / 2) (s % 2) = (if rb P ((3 * t + 1) / 2) = g0 s then 0 else 1) + (if rb P ((3 * t + 1) / 2 + 1) = g1 s then 0 else 1) := by
    unfold mmN
    rw [if_pos he, show 2 * (s / 2) + s % 2 = s by omega]
  have e2 : mmN P t (s / 2 + 8) (s % 2) = (if rb P ((3 * t + 1) / 2) = g0 (s + 16) then 0 else 1) + (if rb P ((3 * t + 1) / 2 + 1) = g1 (s + 16) then 0 else 1) := by
    unfold mmN
    rw [if_pos he, show 2 * (s / 2 + 8) + s % 2 = s + 16 by omega]
  rw [e1, e2]
theorem vK_st1 {P t s : Nat} (hs : s < 16) (he : t % 2 = 1) : stK (vK (mmN P) t) (rb P ((3 * t + 1) / 2)) 1 (2 ^ (35 - t)) s = vK (mmN P) (t + 1) s := by
  rw [vK_step]
  unfold stK
  rw [cs_odd s (by omega) _ (rb_lt _ _), cs_odd (s + 16) (by omega) _ (rb_lt _ _)]
  have e1 : mmN P t (s / 2) (s % 2) = (if rb P ((3 * t + 1) / 2) = g0 s then 0 else 1) := by
    unfold mmN
    rw [if_neg (by omega : ¬ t % 2 = 0), show 2 * (s / 2) + s % 2 = s by omega, Nat.add_zero]
  have e2 : mmN P t (s / 2 + 8) (s % 2) = (if rb P ((3 * t + 1) / 2) = g0 (s + 16) then 0 else 1) := by
    unfold mmN
    rw [if_neg (by omega : ¬ t % 2 = 0), show 2 * (s / 2 + 8) + s % 2 = s + 16 by omega, Nat.add_zero]
  rw [e1, e2]
theorem wt_N {t : Nat} (ht : t < 36) : xll (1 : Int64) (nI (35 - t)) = lN (2 ^ (35 - t)) := by
  rw [show xll (1 : Int64) (nI (35 - t)) = lN (1 * 2 ^ (35 - t)) from xll_N 1 (by omega), Nat.one_mul]
theorem wt_lt {t : Nat} : 2 ^ (35 - t) < 2 ^ 40 := Nat.pow_lt_pow_right (by decide) (by omega)
theorem nr_loop {I : SI} (hs : hSum I) {P : Nat} (hP : P < 2 ^ 64) {J0 : SJ} {p1 : Int64} {p3 : Int32} {post : Int64 → SI → SJ → Prop} (h : ∀ J' : SJ, (∀ o, o ≠ 4 → o ≠ 5 → J' o = J0 o) → post (lN (vK (mmN P) 36 0)) I J') :
    ∀ (n t : Nat) (J : SJ), t + 2 * n = 36 → (∀ o, o ≠ 4 → o ≠ 5 → J o = J0 o) → (∀ s, s < 16 → J 4 s = lN (vK (mmN P) t s)) → p_Co_nearest_L36 p1 p3 post (n + 1) (lN P) (nI (plc ((3 * t + 1) / 2))) (nI t) I J
  | 0, t, J, ht, hJ, hd => by
    have e : t = 36 := by omega
    subst e
    refine ⟨fun _ => ?_, fun hc => absurd (by decide) hc⟩
    rw [hd 0 (by decide)]
    exact h J hJ
  | n + 1, t, J, ht, hJ, hd => by
    have ht36 : t < 36 := by omega
    have hev : t % 2 = 0 := by omega
    have bd : ∀ t, t ≤ 36 → ∀ s, s < 16 → vK (mmN P) t s < 2 ^ 60 := fun t ht s _ => by
      have := vK_bd P t s ht
      omega
    refine ⟨fun hc => absurd hc (nI_ge (a := t) (b := 36) ht36 (by decide)), fun _ => ?_⟩
    refine s_nextPlace ?_
    refine s_nextPlace ?_
    intro x14 e14
    rw [bit_N hP, bit_N hP, pair_N _ (rb_lt _ _) _ (rb_lt _ _)] at e14
    subst e14
    rw [show (35 : Int32) - nI t = nI (35 - t) from pk_sub (a := 35) (by omega), wt_N ht36]
    refine s_Co_stepOn hs (a1 := 0) (a2 := 1) (by decide) (K := vK (mmN P) t) (bd t (by omega)) (e := 2) (by have := rb_lt P ((3 * t + 1) / 2); have := rb_lt P ((3 * t + 1) / 2 + 1); omega) (Or.inr rfl) (by decide) wt_lt hd ?_
    intro J1 k1 k2
    rw [bit_N hP, show (34 : Int32) - nI t = nI (35 - (t + 1)) from (pk_sub (a := 34) (by omega)).trans (by congr 1 <;> omega), wt_N (by omega)]
    rw [show (3 * t + 1) / 2 + 1 + 1 = (3 * (t + 1) + 1) / 2 by omega]
    refine s_Co_stepOn hs (a1 := 1) (a2 := 0) (by decide) (K := vK (mmN P) (t + 1)) (bd (t + 1) (by omega)) (e := 1) (by have := rb_lt P ((3 * (t + 1) + 1) / 2); omega) (Or.inl rfl) (by decide) wt_lt (fun s hs' => by rw [k2 s hs', vK_st0 hs' hev]) ?_
    intro J2 m1 m2
    refine s_nextPlace ?_
    intro x22 e22
    subst e22
    rw [show nI t + (2 : Int32) = nI (t + 2) from nI_add t 2, show (3 * (t + 1) + 1) / 2 + 1 = (3 * (t + 2) + 1) / 2 by omega]
    refine nr_loop hs hP h n (t + 2) J2 (by omega) (fun o h4 h5 => ?_) (fun s hs' => ?_)
    · rw [m1 o h4, k1 o h5]
      exact hJ o h4 h5
    · rw [show J2 4 s = _ from m2 s hs', vK_st1 hs' (by omega)]
theorem fl_loop {I : SI} {v : Int64} {J0 : SJ} {post : SI → SJ → Prop} (h : ∀ J' : SJ, (∀ o, o ≠ 4 → J' o = J0 o) → (∀ s, s < 16 → J' 4 s = v) → post I J') :
    ∀ (n k : Nat) (J : SJ), k + n = 16 → (∀ o, o ≠ 4 → J o = J0 o) → (∀ s, s < k → J 4 s = v) → p_Ar_fillJ_L6 0 v post (n + 1) (nI k) (16 : Int32) I J
  | 0, k, J, hk, hJ, hd => by
    have e : k = 16 := by omega
    subst e
    exact ⟨fun _ => h J hJ hd, fun hc => absurd (by decide) hc⟩
  | n + 1, k, J, hk, hJ, hd => by
    refine ⟨fun hc => absurd hc (nI_ge (a := k) (b := 16) (by omega) (by decide)), fun _ => ⟨k, rfl, by omega, fun J4 e4 x5 e5 => ?_⟩⟩
    subst e5
    rw [nI_1]
    refine fl_loop h n (k + 1) J4 (by omega) (fun o ho => ?_) (fun s hs => ?_)
    · rw [e4, show xv J (4 + 0) k v o = J o from xv_o J k v ho]
      exact hJ o ho
    · rw [e4]
      by_cases hsk : s = k
      · subst hsk
        exact xv_s J 4 s v
      · rw [show xv J (4 + 0) k v 4 s = J 4 s from xv_k J 4 v hsk]
        exact hd s (by omega)
theorem s_Co_nearest {I : SI} {J : SJ} (hs : hSum I) (hk : hCol J) {p1 : Int64} {p3 : Int32} {c P : Nat} (hc : c < 8) (e3 : p3 &&& (7 : Int32) = nI c) (hP : P < 2 ^ 64) (eP : p1 ^^^ trn (nI c) = lN P) {post : Int64 → SI → SJ → Prop} (h : ∀ J' : SJ, (∀ o, o ≠ 4 → o ≠ 5 → J' o = J o) → post (lN (vK (mmN P) 36 0)) I J') : p_Co_nearest p1 p3 post I J := by
  refine ⟨c, e3, hc, fun x2 e2 => ?_⟩
  rw [hk c hc, eP] at e2
  subst e2
  intro x1 e1 x2 e2
  subst e1; subst e2
  refine ⟨17, fl_loop (J0 := J) ?_ 16 0 J rfl (fun _ _ => rfl) (fun s hs => absurd hs (by omega))⟩
  intro J1 k1 k2 J5 e5 x6 e6 x7 e7
  subst e6; subst e7
  refine ⟨19, nr_loop hs hP h 18 0 J5 rfl (fun o h4 h5 => ?_) (fun s hs' => ?_)⟩
  · rw [e5, xv_o J1 0 _ h4]
    exact k1 o h4
  · rw [e5]
    show _ = lN (if s = 0 then 0 else 1099511627776000)
    by_cases h0 : s = 0
    · subst h0
      rw [xv_s, if_pos rfl]
      rfl
    · rw [xv_k J1 4 _ h0, if_neg h0, k2 s hs']
      rfl
