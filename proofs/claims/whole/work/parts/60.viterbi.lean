/-! the nearest word: the class goes forward and keeps, for each state, the least key (2^40 for each unlike place, then the word); the reference goes backward over the numbers of unlike places and then reads the word off. Both are vG 36 0. -/
section VIT
variable (mm : Nat → Nat → Nat → Nat)
/-- the least key of what is still to come: k bits are left -/
def vG : Nat → Nat → Nat
  | 0, _ => 0
  | k + 1, s => if k < 4 then 1099511627776 * mm (35 - k) s 0 + vG k (2 * s % 16)
      else min (1099511627776 * mm (35 - k) s 0 + vG k (2 * s % 16)) (1099511627776 * mm (35 - k) s 1 + 2 ^ k + vG k ((2 * s + 1) % 16))
/-- the reference's numbers -/
def vC : Nat → Nat → Nat
  | 0, _ => 0
  | k + 1, s => if k < 4 then mm (35 - k) s 0 + vC k (2 * s % 16)
      else min (mm (35 - k) s 0 + vC k (2 * s % 16)) (mm (35 - k) s 1 + vC k ((2 * s + 1) % 16))
/-- the reference's word -/
def vL : Nat → Nat → Nat
  | 0, _ => 0
  | k + 1, s => if k < 4 ∨ mm (35 - k) s 0 + vC mm k (2 * s % 16) ≤ mm (35 - k) s 1 + vC mm k ((2 * s + 1) % 16) then vL k (2 * s % 16)
      else 2 ^ k + vL k ((2 * s + 1) % 16)
/-- the class's keys -/
def vK : Nat → Nat → Nat
  | 0, s => if s = 0 then 0 else 1099511627776000
  | t + 1, s => min (vK t (s / 2) + 1099511627776 * mm t (s / 2) (s % 2)) (vK t (s / 2 + 8) + 1099511627776 * mm t (s / 2 + 8) (s % 2)) + s % 2 * 2 ^ (35 - t)
theorem vL_lt : ∀ k s, vL mm k s < 2 ^ k
  | 0, _ => by simp [vL]
  | k + 1, s => by
    unfold vL
    have h0 := vL_lt k (2 * s % 16)
    have h1 := vL_lt k ((2 * s + 1) % 16)
    rw [Nat.pow_succ]
    split <;> omega
theorem vG_eq : ∀ k s, k ≤ 36 → vG mm k s = 1099511627776 * vC mm k s + vL mm k s
  | 0, _, _ => by simp [vG, vC, vL]
  | k + 1, s, hk => by
    have i0 := vG_eq k (2 * s % 16) (by omega)
    have i1 := vG_eq k ((2 * s + 1) % 16) (by omega)
    have l0 := vL_lt mm k (2 * s % 16)
    have l1 := vL_lt mm k ((2 * s + 1) % 16)
    have hp : 2 ^ k < 549755813888 := by
      calc 2 ^ k ≤ 2 ^ 35 := Nat.pow_le_pow_right (by decide) (by omega)
        _ < 549755813888 := by decide
    unfold vG vC vL
    rw [i0, i1]
    generalize vC mm k (2 * s % 16) = c0 at *
    generalize vC mm k ((2 * s + 1) % 16) = c1 at *
    generalize vL mm k (2 * s % 16) = w0 at *
    generalize vL mm k ((2 * s + 1) % 16) = w1 at *
    generalize mm (35 - k) s 0 = a0
    generalize mm (35 - k) s 1 = a1
    generalize 2 ^ k = P at *
    by_cases h4 : k < 4
    · simp only [h4, if_true, true_or]
      omega
    · simp only [h4, if_false, false_or]
      by_cases hc : a0 + c0 ≤ a1 + c1
      · rw [if_pos hc, Nat.min_eq_left hc, Nat.min_eq_left (by omega)]
        omega
      · rw [if_neg hc, Nat.min_eq_right (by omega), Nat.min_eq_right (by omega)]
        omega
theorem vC_le (h2 : ∀ t s b, mm t s b ≤ 2) : ∀ k s, vC mm k s ≤ 2 * k
  | 0, _ => by simp [vC]
  | k + 1, s => by
    unfold vC
    have i0 := vC_le h2 k (2 * s % 16)
    have i1 := vC_le h2 k ((2 * s + 1) % 16)
    have a0 := h2 (35 - k) s 0
    have a1 := h2 (35 - k) s 1
    split
    · omega
    · omega
theorem vG_lt (h2 : ∀ t s b, mm t s b ≤ 2) (s : Nat) : vG mm 36 s < 1099511627776000 := by
  rw [vG_eq mm 36 s (by omega)]
  have h1 := vC_le mm h2 36 s
  have h3 := vL_lt mm 36 s
  have h4 : (2 : Nat) ^ 36 = 68719476736 := by decide
  omega
/-- near the end the last bits are 0 -/
def v_m (t : Nat) : Nat := if t ≤ 32 then 1 else if t = 33 then 2 else if t = 34 then 4 else if t = 35 then 8 else 16
def v_ok (t s : Nat) : Prop := s < 16 ∧ s % v_m t = 0
theorem v_ms {t : Nat} (ht : t < 36) : (v_m t = 1 ∧ v_m (t + 1) = 1 ∧ ¬ 35 - t < 4) ∨ (v_m t = 1 ∧ v_m (t + 1) = 2 ∧ 35 - t < 4) ∨ (v_m t = 2 ∧ v_m (t + 1) = 4 ∧ 35 - t < 4) ∨ (v_m t = 4 ∧ v_m (t + 1) = 8 ∧ 35 - t < 4) ∨ (v_m t = 8 ∧ v_m (t + 1) = 16 ∧ 35 - t < 4) := by
  have h : t < 32 ∨ t = 32 ∨ t = 33 ∨ t = 34 ∨ t = 35 := by omega
  rcases h with h | rfl | rfl | rfl | rfl
  · refine Or.inl ⟨if_pos (by omega), if_pos (by omega), by omega⟩
  · exact Or.inr (Or.inl ⟨rfl, rfl, by decide⟩)
  · exact Or.inr (Or.inr (Or.inl ⟨rfl, rfl, by decide⟩))
  · exact Or.inr (Or.inr (Or.inr (Or.inl ⟨rfl, rfl, by decide⟩)))
  · exact Or.inr (Or.inr (Or.inr (Or.inr ⟨rfl, rfl, by decide⟩)))
theorem v_back {t s : Nat} (ht : t < 36) (h : v_ok (t + 1) s) : v_ok t (s / 2) ∧ v_ok t (s / 2 + 8) ∧ (2 * (s / 2) + s % 2) % 16 = s ∧ (2 * (s / 2 + 8) + s % 2) % 16 = s ∧ (35 - t < 4 → s % 2 = 0) := by
  obtain ⟨h1, h2⟩ := h
  unfold v_ok
  rcases v_ms ht with ⟨e1, e2, e3⟩ | ⟨e1, e2, e3⟩ | ⟨e1, e2, e3⟩ | ⟨e1, e2, e3⟩ | ⟨e1, e2, e3⟩ <;> rw [e2] at h2 <;> rw [e1] <;> refine ⟨⟨by omega, by omega⟩, ⟨by omega, by omega⟩, by omega, by omega, fun _ => by omega⟩
theorem v_fore {t s : Nat} (ht : t < 36) (h : v_ok t s) : (v_ok (t + 1) (2 * s % 16) ∧ (2 * s % 16) % 2 = 0 ∧ (s = 2 * s % 16 / 2 ∨ s = 2 * s % 16 / 2 + 8)) ∧ (¬ 35 - t < 4 → v_ok (t + 1) ((2 * s + 1) % 16) ∧ ((2 * s + 1) % 16) % 2 = 1 ∧ (s = (2 * s + 1) % 16 / 2 ∨ s = (2 * s + 1) % 16 / 2 + 8)) := by
  obtain ⟨h1, h2⟩ := h
  unfold v_ok
  rcases v_ms ht with ⟨e1, e2, e3⟩ | ⟨e1, e2, e3⟩ | ⟨e1, e2, e3⟩ | ⟨e1, e2, e3⟩ | ⟨e1, e2, e3⟩ <;> rw [e1] at h2 <;> rw [e2] <;> refine ⟨⟨⟨by omega, by omega⟩, by omega, by omega⟩, fun h4 => ?_⟩ <;> first | exact absurd e3 h4 | exact ⟨⟨by omega, by omega⟩, by omega, by omega⟩
def v_A (t x : Nat) : Prop := (∀ s, v_ok t s → x ≤ vK mm t s + vG mm (36 - t) s) ∧ ∃ s, v_ok t s ∧ vK mm t s + vG mm (36 - t) s ≤ x
theorem vK_step (t s : Nat) : vK mm (t + 1) s = min (vK mm t (s / 2) + 1099511627776 * mm t (s / 2) (s % 2)) (vK mm t (s / 2 + 8) + 1099511627776 * mm t (s / 2 + 8) (s % 2)) + s % 2 * 2 ^ (35 - t) := by
  rw [vK]
theorem vK_le {t s p b : Nat} (hb : s % 2 = b) (hp : p = s / 2 ∨ p = s / 2 + 8) : vK mm (t + 1) s ≤ vK mm t p + 1099511627776 * mm t p b + b * 2 ^ (35 - t) := by
  subst hb
  rw [vK_step]
  rcases hp with rfl | rfl
  · exact Nat.add_le_add_right (Nat.min_le_left _ _) _
  · exact Nat.add_le_add_right (Nat.min_le_right _ _) _
theorem vG_step (k s : Nat) : vG mm (k + 1) s = if k < 4 then 1099511627776 * mm (35 - k) s 0 + vG mm k (2 * s % 16)
      else min (1099511627776 * mm (35 - k) s 0 + vG mm k (2 * s % 16)) (1099511627776 * mm (35 - k) s 1 + 2 ^ k + vG mm k ((2 * s + 1) % 16)) := by
  rw [vG]
theorem vG_at {t : Nat} (ht : t < 36) (s : Nat) : vG mm (36 - t) s = if 35 - t < 4 then 1099511627776 * mm t s 0 + vG mm (35 - t) (2 * s % 16)
      else min (1099511627776 * mm t s 0 + vG mm (35 - t) (2 * s % 16)) (1099511627776 * mm t s 1 + 2 ^ (35 - t) + vG mm (35 - t) ((2 * s + 1) % 16)) := by
  have e1 : 36 - t = (35 - t) + 1 := by omega
  have e2 : 35 - (35 - t) = t := by omega
  rw [e1, vG_step, e2]
theorem vG_le {t p s b : Nat} (ht : t < 36) (hb : b = 0 ∨ (b = 1 ∧ ¬ 35 - t < 4)) (hs : (2 * p + b) % 16 = s) : vG mm (36 - t) p ≤ 1099511627776 * mm t p b + b * 2 ^ (35 - t) + vG mm (35 - t) s := by
  rw [vG_at mm ht]
  rcases hb with rfl | ⟨rfl, h4⟩
  · rw [Nat.add_zero] at hs
    rw [hs, Nat.zero_mul, Nat.add_zero]
    split
    · exact Nat.le_refl _
    · exact Nat.min_le_left _ _
  · rw [if_neg h4, hs, Nat.one_mul]
    exact Nat.min_le_right _ _
theorem v_step {t x : Nat} (ht : t < 36) (h : v_A mm t x) : v_A mm (t + 1) x := by
  obtain ⟨h1, q, hq, h2⟩ := h
  have e1 : 36 - (t + 1) = 35 - t := by omega
  refine ⟨fun s hs => ?_, ?_⟩
  · rw [e1, vK_step]
    obtain ⟨o1, o2, m1, m2, b0⟩ := v_back ht hs
    have hb : s % 2 = 0 ∨ (s % 2 = 1 ∧ ¬ 35 - t < 4) := by
      by_cases h4 : 35 - t < 4
      · exact Or.inl (b0 h4)
      · have : s % 2 < 2 := Nat.mod_lt _ (by decide)
        omega
    have g1 := vG_le mm ht hb m1
    have g2 := vG_le mm ht hb m2
    have k1 := h1 _ o1
    have k2 := h1 _ o2
    generalize vG mm (36 - t) (s / 2) = a1 at *
    generalize vG mm (36 - t) (s / 2 + 8) = a2 at *
    generalize vG mm (35 - t) s = a3 at *
    generalize vK mm t (s / 2) = a4 at *
    generalize vK mm t (s / 2 + 8) = a5 at *
    generalize 1099511627776 * mm t (s / 2) (s % 2) = a6 at *
    generalize 1099511627776 * mm t (s / 2 + 8) (s % 2) = a7 at *
    generalize s % 2 * 2 ^ (35 - t) = a8 at *
    clear h1 h2 hq hb b0 m1 m2 o1 o2 hs
    rcases Nat.le_total (a4 + a6) (a5 + a7) with hle | hle
    · rw [Nat.min_eq_left hle]
      omega
    · rw [Nat.min_eq_right hle]
      omega
  · obtain ⟨⟨f0, f1, f2⟩, f3⟩ := v_fore ht hq
    rw [vG_at mm ht] at h2
    rw [e1]
    by_cases h4 : 35 - t < 4
    · rw [if_pos h4] at h2
      refine ⟨2 * q % 16, f0, ?_⟩
      have h5 := vK_le mm (t := t) f1 f2
      generalize vK mm (t + 1) (2 * q % 16) = a1 at *
      generalize vG mm (35 - t) (2 * q % 16) = a2 at *
      generalize vK mm t q = a3 at *
      generalize mm t q 0 = a4 at *
      generalize 2 ^ (35 - t) = a5 at *
      clear h1 f0 f1 f2 f3
      omega
    · rw [if_neg h4] at h2
      obtain ⟨g0, g1, g2⟩ := f3 h4
      rcases Nat.le_total (1099511627776 * mm t q 0 + vG mm (35 - t) (2 * q % 16)) (1099511627776 * mm t q 1 + 2 ^ (35 - t) + vG mm (35 - t) ((2 * q + 1) % 16)) with hle | hle
      · rw [Nat.min_eq_left hle] at h2
        refine ⟨2 * q % 16, f0, ?_⟩
        have h5 := vK_le mm (t := t) f1 f2
        clear hle
        generalize vK mm (t + 1) (2 * q % 16) = a1 at *
        generalize vG mm (35 - t) (2 * q % 16) = a2 at *
        generalize vK mm t q = a3 at *
        generalize mm t q 0 = a4 at *
        generalize 2 ^ (35 - t) = a5 at *
        clear h1 f0 f1 f2 f3 g0 g1 g2
        omega
      · rw [Nat.min_eq_right hle] at h2
        refine ⟨(2 * q + 1) % 16, g0, ?_⟩
        have h5 := vK_le mm (t := t) g1 g2
        clear hle
        generalize vK mm (t + 1) ((2 * q + 1) % 16) = a1 at *
        generalize vG mm (35 - t) ((2 * q + 1) % 16) = a2 at *
        generalize vK mm t q = a3 at *
        generalize mm t q 1 = a4 at *
        generalize 2 ^ (35 - t) = a5 at *
        clear h1 f0 f1 f2 f3 g0 g1 g2
        omega
theorem v_start (h2 : ∀ t s b, mm t s b ≤ 2) : v_A mm 0 (vG mm 36 0) := by
  refine ⟨fun s hs => ?_, 0, ⟨by decide, by decide⟩, ?_⟩
  · show _ ≤ (if s = 0 then 0 else 1099511627776000) + vG mm 36 s
    by_cases h : s = 0
    · rw [if_pos h, h, Nat.zero_add]
      exact Nat.le_refl _
    · rw [if_neg h]
      exact Nat.le_trans (Nat.le_of_lt (vG_lt mm h2 0)) (Nat.le_add_right _ _)
  · show (if (0 : Nat) = 0 then 0 else 1099511627776000) + vG mm 36 0 ≤ _
    rw [if_pos rfl, Nat.zero_add]
    exact Nat.le_refl _
theorem v_all (h2 : ∀ t s b, mm t s b ≤ 2) : ∀ t, t ≤ 36 → v_A mm t (vG mm 36 0)
  | 0, _ => v_start mm h2
  | t + 1, h => v_step mm (by omega) (v_all h2 t (by omega))
/-- forward and backward find the same key -/
theorem v_main (h2 : ∀ t s b, mm t s b ≤ 2) : vK mm 36 0 = vG mm 36 0 := by
  obtain ⟨h1, s, ⟨hs, hs2⟩, h3⟩ := v_all mm h2 36 (Nat.le_refl _)
  have h4 := h1 0 ⟨by decide, by decide⟩
  have e : s = 0 := by
    have : s % 16 = 0 := hs2
    omega
  subst e
  have e0 : vG mm (36 - 36) 0 = 0 := rfl
  rw [e0, Nat.add_zero] at h3 h4
  exact Nat.le_antisymm h3 h4
end VIT
