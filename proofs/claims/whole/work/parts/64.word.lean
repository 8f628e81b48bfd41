/-! words: the block, its check, four bits 0 -/
theorem chL_in {b : Nat} (hb : b < 2 ^ 20) : ∀ (n ρ : Nat), n ≤ 20 → ρ < 4096 → ∃ ρ', ρ' < 4096 ∧ chL n (nI b) (nI ρ) = nI ρ'
  | 0, ρ, _, h => ⟨ρ, h, rfl⟩
  | n + 1, ρ, hn, h => by
    have hq : b / 2 ^ n < 2 ^ 31 := Nat.lt_of_le_of_lt (Nat.div_le_self _ _) (by omega)
    obtain ⟨d1, d2⟩ := (ck_eq h).2 (b / 2 ^ n % 2) (Nat.mod_lt _ (by decide))
    obtain ⟨r, hr, e⟩ := chL_in hb n _ (by omega) d1
    refine ⟨r, hr, ?_⟩
    rw [chL, xsu_N (by omega) (by omega), chS_par ρ _ h hq, d2]
    exact e
def ckN (b : Nat) : Nat := (chF (nI b)).toBitVec.toNat
theorem ckN_ok {b : Nat} (hb : b < 2 ^ 20) : ckN b < 4096 ∧ chF (nI b) = nI (ckN b) := by
  obtain ⟨r, hr, e⟩ := chL_in hb 20 4095 (by omega) (by omega)
  have e' : chF (nI b) = nI r := e
  have e2 : ckN b = r := by
    unfold ckN
    rw [e']
    exact pk_tn (by omega)
  rw [e2]
  exact ⟨hr, e'⟩
/-- the word of a block -/
def wdN (b : Nat) : Nat := b * 65536 + ckN b * 16
theorem wdN_lt {b : Nat} (hb : b < 2 ^ 20) : wdN b < 2 ^ 36 := by
  have := (ckN_ok hb).1
  unfold wdN
  omega
theorem xll_N (n : Nat) {k : Nat} (hk : k < 64) : xll (lN n) (nI k) = lN (n * 2 ^ k) := wb_shl n hk
theorem xlu_N {n k : Nat} (hn : n < 2 ^ 64) (hk : k < 64) : xlu (lN n) (nI k) = lN (n / 2 ^ k) := wb_shr hn hk
theorem xlr_N {n k : Nat} (hn : n < 2 ^ 62) (hk : k < 64) : xlr (lN n) (nI k) = lN (n / 2 ^ k) := by
  have h : ∀ k, k < 64 → (((nI k).toInt64 &&& 63).toBitVec.smod 64).toNat = k := by decide +kernel
  exact pf_shr (h k hk) hn
theorem wd_eq {b : Nat} (hb : b < 2 ^ 20) : (xll (Int32.toInt64 (nI b)) (16 : Int32)) ||| (xll (Int32.toInt64 (chF (nI b))) (4 : Int32)) = lN (wdN b) := by
  obtain ⟨h1, h2⟩ := ckN_ok hb
  rw [h2, nI_l (by omega), nI_l (by omega)]
  have e1 : xll (lN b) (16 : Int32) = lN (b * 65536) := xll_N (k := 16) b (by decide)
  have e2 : xll (lN (ckN b)) (4 : Int32) = lN (ckN b * 16) := xll_N (k := 4) _ (by decide)
  rw [e1, e2]
  exact g_or (k := 16) (p := 65536) (by decide) (by omega) (by omega)
theorem s_Co_wordOf {b : Nat} (hb : b < 2 ^ 20) {post : Int64 → SI → SJ → Prop} {I : SI} {J : SJ} (h : post (lN (wdN b)) I J) : p_Co_wordOf (nI b) post I J := by
  refine s_Co_checkOf ?_
  show post _ I J
  rw [wd_eq hb]
  exact h
