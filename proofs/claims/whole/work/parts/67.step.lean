/-! one bit more, in the class's search -/
def pcn (j : Nat) : Nat := j % 2 + j / 2 % 2
theorem unl_N : ∀ j, j < 4 → unlL j = lN (1099511627776 * pcn j) := by decide +kernel
/-- how many of the sums that were sent are unlike: e of them -/
def csN (pr e j : Nat) : Nat := pcn (((g0 j + 2 * g1 j) ^^^ pr) % 2 ^ e)
def stK (K : Nat → Nat) (pr e wt s : Nat) : Nat := min (K (s / 2) + 1099511627776 * csN pr e s) (K (s / 2 + 8) + 1099511627776 * csN pr e (s + 16)) + s % 2 * wt
theorem pcn_le (j : Nat) : pcn j ≤ 2 := by
  unfold pcn
  omega
theorem lN_le63 {a b : Nat} (ha : a < 2 ^ 63) (hb : b < 2 ^ 63) : lN a ≤ lN b ↔ a ≤ b := pk_lLE ha hb
theorem st_ix {I : SI} (hs : hSum I) {pr e j : Nat} (hj : j < 32) (hpr : pr < 4) (he : e = 1 ∨ e = 2) {p4 : Int32} (h4 : p4.toBitVec.toNat = 2 ^ e - 1) : ((I 3 j) ^^^ (nI pr)) &&& p4 = nI (((g0 j + 2 * g1 j) ^^^ pr) % 2 ^ e) ∧ ((g0 j + 2 * g1 j) ^^^ pr) % 2 ^ e < 4 := by
  have h0 := g0_lt j
  have h1 := g1_lt j
  rw [hs j hj, xor_N, pk_andN (k := e) (Nat.lt_of_lt_of_le (Nat.xor_lt_two_pow (n := 2) (by omega) (by omega)) (by decide)) h4]
  refine ⟨rfl, ?_⟩
  rcases he with rfl | rfl
  · exact Nat.lt_of_lt_of_le (Nat.mod_lt _ (by decide)) (by decide)
  · exact Nat.mod_lt _ (by decide)
theorem st_loop {I : SI} (hs : hSum I) {a1 a2 : Nat} (hne : a1 ≠ a2) {K : Nat → Nat} (hK : ∀ s, s < 16 → K s < 2 ^ 60) {pr e wt : Nat} (hpr : pr < 4) (he : e = 1 ∨ e = 2) {p4 : Int32} (h4 : p4.toBitVec.toNat = 2 ^ e - 1) (hwt : wt < 2 ^ 40) {J0 : SJ} (hJ0 : ∀ s, s < 16 → J0 (4 + a1) s = lN (K s)) {post : SI → SJ → Prop}
    (h : ∀ J' : SJ, (∀ o, o ≠ 4 + a2 → J' o = J0 o) → (∀ s, s < 16 → J' (4 + a2) s = lN (stK K pr e wt s)) → post I J') :
    ∀ (n k : Nat) (J : SJ), k + n = 16 → (∀ o, o ≠ 4 + a2 → J o = J0 o) → (∀ s, s < k → J (4 + a2) s = lN (stK K pr e wt s)) → p_Co_stepOn_L3 a1 a2 (nI pr) p4 (lN wt) post (n + 1) (nI k) I J
  | 0, k, J, hk, hJ, hd => by
    have e' : k = 16 := by omega
    subst e'
    exact ⟨fun _ => h J hJ hd, fun hc => absurd (by decide) hc⟩
  | n + 1, k, J, hk, hJ, hd => by
    have hk16 : k < 16 := by omega
    obtain ⟨i1, i2⟩ := st_ix hs (j := k) (by omega) hpr he h4
    obtain ⟨i3, i4⟩ := st_ix hs (j := k + 16) (by omega) hpr he h4
    have hrow : ∀ s, s < 16 → J (4 + a1) s = lN (K s) := fun s h => by rw [hJ (4 + a1) (by omega)]; exact hJ0 s h
    have hx : xsu (nI k) (1 : Int32) = nI (k / 2) := xsu_N (j := 1) (by omega) (by decide)
    refine ⟨fun hc => absurd hc (nI_ge (a := k) (b := 16) hk16 (by decide)), fun _ x2 e2 => ?_⟩
    rw [hx] at e2
    subst e2
    refine ⟨k / 2, rfl, by omega, k, rfl, by omega, _, i1, i2, fun x6 e6 => ⟨k / 2 + 8, nI_add (k / 2) 8, by omega, k + 16, nI_add k 16, by omega, _, i3, i4, fun x10 e10 => ?_⟩⟩
    rw [hrow _ (by omega), unl_N _ i2, lN_add] at e6
    rw [hrow _ (by omega), unl_N _ i4, lN_add] at e10
    have b1 := hK (k / 2) (by omega)
    have b2 := hK (k / 2 + 8) (by omega)
    have c1 : csN pr e k ≤ 2 := pcn_le _
    have c2 : csN pr e (k + 16) ≤ 2 := pcn_le _
    change x6 = lN (K (k / 2) + 1099511627776 * csN pr e k) at e6
    change x10 = lN (K (k / 2 + 8) + 1099511627776 * csN pr e (k + 16)) at e10
    have hst : stK K pr e wt k = min (K (k / 2) + 1099511627776 * csN pr e k) (K (k / 2 + 8) + 1099511627776 * csN pr e (k + 16)) + k % 2 * wt := rfl
    generalize hX : K (k / 2) + 1099511627776 * csN pr e k = X at *
    generalize hY : K (k / 2 + 8) + 1099511627776 * csN pr e (k + 16) = Y at *
    have hXb : X < 2 ^ 62 := by omega
    have hYb : Y < 2 ^ 62 := by omega
    subst e6; subst e10
    have fin : ∀ Z, Z = min X Y → p_Co_stepOn_86 a1 a2 (nI pr) p4 (lN wt) post (p_Co_stepOn_L3 a1 a2 (nI pr) p4 (lN wt) post (n + 1)) (nI k) (lN Z) (nI k) I J := by
      intro Z hZ
      refine ⟨k, rfl, hk16, fun J12 e12 x13 e13 => ?_⟩
      have ev : Int32.toInt64 ((nI k) &&& (1 : Int32)) = lN (k % 2) := by
        rw [and1_N (by omega), nI_l (by omega)]
      rw [ev, lN_mul, lN_add] at e12
      subst e13
      rw [nI_1]
      refine st_loop hs hne hK hpr he h4 hwt hJ0 h n (k + 1) J12 (by omega) (fun o ho => ?_) (fun s hs' => ?_)
      · rw [e12, xv_o J k _ ho]
        exact hJ o ho
      · rw [e12]
        by_cases hsk : s = k
        · subst hsk
          rw [xv_s, hst, hZ]
        · rw [xv_k J (4 + a2) _ hsk]
          exact hd s (by omega)
    refine ⟨fun hc => ?_, fun hc => ?_⟩
    · rw [show ((0 : Int32) ≤ lg_cmp (lN X) (lN Y)) = (lN Y ≤ lN X) from propext (lg_cmp_ge _ _), lN_le63 (by omega) (by omega)] at hc
      exact fin Y (by rw [Nat.min_eq_right hc])
    · rw [show ((0 : Int32) ≤ lg_cmp (lN X) (lN Y)) = (lN Y ≤ lN X) from propext (lg_cmp_ge _ _), lN_le63 (by omega) (by omega)] at hc
      exact fin X (by rw [Nat.min_eq_left (by omega)])
theorem s_Co_stepOn {I : SI} (hs : hSum I) {a1 a2 : Nat} (hne : a1 ≠ a2) {K : Nat → Nat} (hK : ∀ s, s < 16 → K s < 2 ^ 60) {pr e wt : Nat} (hpr : pr < 4) (he : e = 1 ∨ e = 2) {p4 : Int32} (h4 : p4.toBitVec.toNat = 2 ^ e - 1) (hwt : wt < 2 ^ 40) {J : SJ} (hJ : ∀ s, s < 16 → J (4 + a1) s = lN (K s)) {post : SI → SJ → Prop}
    (h : ∀ J' : SJ, (∀ o, o ≠ 4 + a2 → J' o = J o) → (∀ s, s < 16 → J' (4 + a2) s = lN (stK K pr e wt s)) → post I J') : p_Co_stepOn a1 a2 (nI pr) p4 (lN wt) post I J := by
  intro x1 e1
  subst e1
  exact ⟨17, st_loop hs hne hK hpr he h4 hwt hJ h 16 0 J rfl (fun _ _ => rfl) (fun s hs => absurd hs (by omega))⟩
