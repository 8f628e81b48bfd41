/-! a burst with no fault gives its block -/
def bsNs (w t a : Nat) : Nat := if t % 2 = 0 then (a ^^^ (g0 (w / 2 ^ (35 - t) % 32) * 2 ^ plc ((3 * t + 1) / 2))) ^^^ (g1 (w / 2 ^ (35 - t) % 32) * 2 ^ plc ((3 * t + 1) / 2 + 1)) else a ^^^ (g0 (w / 2 ^ (35 - t) % 32) * 2 ^ plc ((3 * t + 1) / 2))
def bsN (w : Nat) : Nat → Nat → Nat → Nat
  | 0, _, a => a
  | n + 1, t, a => bsN w n (t + 1) (bsNs w t a)
theorem vp_lt {v p : Nat} (hv : v < 2) (hp : p < 54) : v * 2 ^ p < 2 ^ 54 := by
  have h : 2 ^ p < 2 ^ 54 := Nat.pow_lt_pow_right (by decide) hp
  have : v = 0 ∨ v = 1 := by omega
  rcases this with rfl | rfl
  · rw [Nat.zero_mul]; decide
  · rw [Nat.one_mul]; exact h
theorem bx_N {r : Int64} {a v p : Nat} (ha : a < 2 ^ 54) (hv : v < 2) (hp : p < 54) : bx (lN a ^^^ r) v p = lN (a ^^^ (v * 2 ^ p)) ^^^ r ∧ a ^^^ (v * 2 ^ p) < 2 ^ 54 := by
  have h := vp_lt hv hp
  refine ⟨?_, Nat.xor_lt_two_pow ha h⟩
  unfold bx
  rw [← lx (by omega) (by omega), Int64.xor_assoc, Int64.xor_comm r, ← Int64.xor_assoc]
theorem bsS_N {r : Int64} {w t a : Nat} (ha : a < 2 ^ 54) : bsS w t (lN a ^^^ r) = lN (bsNs w t a) ^^^ r ∧ bsNs w t a < 2 ^ 54 := by
  unfold bsS bsNs
  obtain ⟨e1, h1⟩ := bx_N (r := r) ha (g0_lt (w / 2 ^ (35 - t) % 32)) (plc_lt ((3 * t + 1) / 2))
  by_cases he : t % 2 = 0
  · rw [if_pos he, if_pos he, e1]
    exact bx_N h1 (g1_lt _) (plc_lt _)
  · rw [if_neg he, if_neg he, e1]
    exact ⟨rfl, h1⟩
theorem bsL_N {r : Int64} {w : Nat} : ∀ (n t a : Nat), a < 2 ^ 54 → bsL w n t (lN a ^^^ r) = lN (bsN w n t a) ^^^ r ∧ bsN w n t a < 2 ^ 54
  | 0, t, a, ha => ⟨rfl, ha⟩
  | n + 1, t, a, ha => by
    obtain ⟨e, h⟩ := bsS_N (r := r) (w := w) (t := t) ha
    rw [bsL, bsN, e]
    exact bsL_N n (t + 1) _ h
theorem plc_inj : ∀ i, i < 54 → ∀ j, j < 54 → plc i = plc j → i = j := by decide +kernel
theorem rb_x {a v i j : Nat} (hv : v < 2) (hi : i < 54) (hj : j < 54) : rb (a ^^^ (v * 2 ^ plc j)) i = if i = j then (rb a i + v) % 2 else rb a i := by
  unfold rb
  rw [Nat.xor_div_two_pow, xor_par]
  by_cases h : i = j
  · subst h
    rw [if_pos rfl, Nat.mul_div_cancel _ (Nat.two_pow_pos _)]
    omega
  · rw [if_neg h]
    have hne : plc i ≠ plc j := fun e => h (plc_inj i hi j hj e)
    have hz : v * 2 ^ plc j / 2 ^ plc i % 2 = 0 := by
      by_cases hl : plc i < plc j
      · rw [show plc j = plc i + (1 + (plc j - plc i - 1)) by omega, Nat.pow_add, Nat.pow_add, show v * (2 ^ plc i * (2 ^ 1 * 2 ^ (plc j - plc i - 1))) = 2 ^ plc i * (2 * (v * 2 ^ (plc j - plc i - 1))) by
          rw [Nat.mul_left_comm v, Nat.mul_left_comm v], Nat.mul_div_cancel_left _ (Nat.two_pow_pos _)]
        exact Nat.mul_mod_right 2 _
      · have h2 : 2 ^ plc j < 2 ^ plc i := Nat.pow_lt_pow_right (by decide) (by omega)
        have h3 : v * 2 ^ plc j < 2 ^ plc i := by
          have : v = 0 ∨ v = 1 := by omega
          rcases this with rfl | rfl
          · rw [Nat.zero_mul]; exact Nat.two_pow_pos _
          · rw [Nat.one_mul]; exact h2
        rw [Nat.div_eq_of_lt h3]
    omega
def okB (w t a : Nat) : Prop := rb a ((3 * t + 1) / 2) = g0 (w / 2 ^ (35 - t) % 32) ∧ (t % 2 = 0 → rb a ((3 * t + 1) / 2 + 1) = g1 (w / 2 ^ (35 - t) % 32))
theorem bsN_ok {w : Nat} : ∀ (n t a : Nat), t + n = 36 → (∀ u, u < t → okB w u a) → (∀ i, (3 * t + 1) / 2 ≤ i → i < 54 → rb a i = 0) → ∀ u, u < 36 → okB w u (bsN w n t a)
  | 0, t, a, ht, h1, _ => fun u hu => h1 u (by omega)
  | n + 1, t, a, ht, h1, h2 => by
    rw [bsN]
    have q0 := g0_lt (w / 2 ^ (35 - t) % 32)
    have q1 := g1_lt (w / 2 ^ (35 - t) % 32)
    have key : ∀ i, i < 54 → rb (bsNs w t a) i = if i = (3 * t + 1) / 2 then (rb a i + g0 (w / 2 ^ (35 - t) % 32)) % 2 else if t % 2 = 0 ∧ i = (3 * t + 1) / 2 + 1 then (rb a i + g1 (w / 2 ^ (35 - t) % 32)) % 2 else rb a i := by
      intro i hi
      unfold bsNs
      by_cases he : t % 2 = 0
      · rw [if_pos he, rb_x q1 hi (by omega), rb_x q0 hi (by omega)]
        by_cases e1 : i = (3 * t + 1) / 2
        · rw [if_pos e1, if_pos e1, if_neg (by omega)]
        · rw [if_neg e1, if_neg e1]
          by_cases e2 : i = (3 * t + 1) / 2 + 1
          · rw [if_pos e2, if_pos ⟨he, e2⟩]
          · rw [if_neg e2, if_neg (fun h => e2 h.2)]
      · rw [if_neg he, rb_x q0 hi (by omega)]
        by_cases e1 : i = (3 * t + 1) / 2
        · rw [if_pos e1, if_pos e1]
        · rw [if_neg e1, if_neg e1, if_neg (fun h => he h.1)]
    refine bsN_ok n (t + 1) _ (by omega) (fun u hu => ?_) (fun i hi hi2 => ?_)
    · by_cases hut : u = t
      · subst hut
        refine ⟨?_, fun he => ?_⟩
        · rw [key _ (by omega), if_pos rfl, h2 _ (Nat.le_refl _) (by omega)]
          omega
        · rw [key _ (by omega), if_neg (by omega), if_pos ⟨he, rfl⟩, h2 _ (by omega) (by omega)]
          omega
      · obtain ⟨o1, o2⟩ := h1 u (by omega)
        refine ⟨?_, fun he => ?_⟩
        · rw [key _ (by omega), if_neg (by omega), if_neg (by omega)]
          exact o1
        · rw [key _ (by omega), if_neg (by omega), if_neg (by omega)]
          exact o2 he
    · rw [key i hi2, if_neg (by omega), if_neg (by omega)]
      exact h2 i (by omega) hi2
theorem g0_ne : ∀ s, s < 16 → ∀ b, b < 2 → ∀ d, d < 2 → b ≠ d → g0 (2 * s + b) ≠ g0 (2 * s + d) := by decide +kernel
theorem mm_path {w B t : Nat} (ht : t < 36) (h : okB w t B) : mmN B t (w / 2 ^ (36 - t) % 16) (w / 2 ^ (35 - t) % 2) = 0 ∧ ∀ d, d < 2 → d ≠ w / 2 ^ (35 - t) % 2 → 1 ≤ mmN B t (w / 2 ^ (36 - t) % 16) d := by
  obtain ⟨h1, h2⟩ := h
  rw [w_split ht] at h1 h2
  have hs : w / 2 ^ (36 - t) % 16 < 16 := Nat.mod_lt _ (by decide)
  have hb : w / 2 ^ (35 - t) % 2 < 2 := Nat.mod_lt _ (by decide)
  generalize w / 2 ^ (36 - t) % 16 = s at *
  generalize w / 2 ^ (35 - t) % 2 = b at *
  refine ⟨?_, fun d hd hne => ?_⟩
  · unfold mmN
    rw [if_pos h1]
    by_cases he : t % 2 = 0
    · rw [if_pos he, if_pos (h2 he)]
    · rw [if_neg he]
  · unfold mmN
    rw [h1, if_neg (g0_ne s hs b hb d hd (fun e => hne e.symm))]
    omega
theorem v_path {w B : Nat} (h16 : w % 16 = 0) (hB : ∀ u, u < 36 → okB w u B) : ∀ k, k ≤ 36 → vC (mmN B) k (w / 2 ^ k % 16) = 0 ∧ vL (mmN B) k (w / 2 ^ k % 16) = w % 2 ^ k
  | 0, _ => ⟨rfl, by rw [Nat.pow_zero, Nat.mod_one]; rfl⟩
  | k + 1, hk => by
    obtain ⟨i1, i2⟩ := v_path h16 hB k (by omega)
    obtain ⟨p1, p2⟩ := mm_path (t := 35 - k) (by omega) (hB (35 - k) (by omega))
    have nx := w_next (w := w) (t := 35 - k) (by omega)
    rw [show 36 - (35 - k) = k + 1 by omega, show 35 - (35 - k) = k by omega] at p1 p2
    rw [show 36 - (35 - k + 1) = k by omega, show 36 - (35 - k) = k + 1 by omega, show 35 - (35 - k) = k by omega] at nx
    have hsplit : w % 2 ^ (k + 1) = w % 2 ^ k + 2 ^ k * (w / 2 ^ k % 2) := by rw [Nat.pow_succ, Nat.mod_mul]
    have hb : w / 2 ^ k % 2 < 2 := Nat.mod_lt _ (by decide)
    have h4 : k < 4 → w / 2 ^ k % 2 = 0 := by
      intro h
      have : k = 0 ∨ k = 1 ∨ k = 2 ∨ k = 3 := by omega
      rcases this with rfl | rfl | rfl | rfl <;> omega
    generalize w / 2 ^ (k + 1) % 16 = s at *
    generalize w / 2 ^ k % 2 = b at *
    rw [vC, vL, hsplit]
    have hb' : b = 0 ∨ b = 1 := by omega
    rcases hb' with rfl | rfl
    · rw [Nat.add_zero] at nx
      rw [nx, p1, i1]
      refine ⟨?_, ?_⟩
      · split
        · rfl
        · exact Nat.min_eq_left (by omega)
      · rw [if_pos (Or.inr (by omega)), i2]
        omega
    · have hk4 : ¬ k < 4 := fun h => absurd (h4 h) (by decide)
      have := p2 0 (by decide) (by decide)
      rw [nx, p1, i1, if_neg hk4, if_neg (by omega), i2]
      exact ⟨Nat.min_eq_right (by omega), by omega⟩
theorem dc_clean {b c : Nat} (hb : b < 2 ^ 20) (hc : c < 8) : ∃ B, B < 2 ^ 54 ∧ bsF (wdN b) (trn (nI c)) ^^^ trn (nI c) = lN B ∧ dcN B = nI b := by
  obtain ⟨e, h⟩ := bsL_N (r := trn (nI c)) (w := wdN b) 36 0 0 (by decide)
  have e0 : lN 0 ^^^ trn (nI c) = trn (nI c) := Int64.zero_xor
  rw [e0] at e
  refine ⟨bsN (wdN b) 36 0 0, h, ?_, ?_⟩
  · unfold bsF
    rw [e, Int64.xor_assoc, Int64.xor_self]
    exact Int64.xor_zero
  · have hw := wdN_lt hb
    have hk := (ckN_ok hb).1
    have h16 : wdN b % 16 = 0 := by
      unfold wdN
      omega
    have ok := bsN_ok (w := wdN b) 36 0 0 rfl (fun u hu => absurd hu (by omega)) (fun i _ _ => by unfold rb; rw [Nat.zero_div])
    obtain ⟨_, q⟩ := v_path h16 ok 36 (by decide)
    rw [Nat.div_eq_of_lt hw, Nat.mod_eq_of_lt hw, Nat.zero_mod] at q
    unfold dcN
    rw [q]
    have q1 : wdN b / 65536 = b := by
      unfold wdN
      omega
    have q2 : wdN b / 16 % 4096 = ckN b := by
      unfold wdN
      omega
    rw [q1, q2, if_pos rfl]
