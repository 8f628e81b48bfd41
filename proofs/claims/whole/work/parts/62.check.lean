/-! shifts of small numbers; the check -/
theorem su_k : ∀ j, j < 32 → (((nI j).toUInt32 &&& Int32.toUInt32 31).toBitVec % 32).toNat = j := by decide +kernel
theorem sr_k : ∀ j, j < 32 → (((nI j) &&& 31).toBitVec.smod 32).toNat = j := by decide +kernel
theorem xsu_N {b j : Nat} (hb : b < 2 ^ 32) (hj : j < 32) : xsu (nI b) (nI j) = nI (b / 2 ^ j) := pk_ushrN hb (nI j) j (su_k j hj)
theorem xsr_N {b j : Nat} (hb : b < 2 ^ 31) (hj : j < 32) : xsr (nI b) (nI j) = nI (b / 2 ^ j) := pk_shrN hb ((nI j) &&& 31) j (sr_k j hj)
theorem and1_N {b : Nat} (hb : b < 2 ^ 32) : (nI b) &&& (1 : Int32) = nI (b % 2) := pk_andN hb 1 (by decide)
theorem xor_N (a b : Nat) : nI a ^^^ nI b = nI (a ^^^ b) := by
  apply Int32.toBitVec_inj.mp
  show BitVec.ofNat 32 a ^^^ BitVec.ofNat 32 b = BitVec.ofNat 32 (a ^^^ b)
  exact BitVec.ofNat_xor.symm
theorem xor_par (a b : Nat) : (a ^^^ b) % 2 = (a + b) % 2 := by
  have h := Nat.testBit_xor a b 0
  simp only [Nat.testBit_zero] at h
  have ha : a % 2 = 0 ∨ a % 2 = 1 := by omega
  have hb : b % 2 = 0 ∨ b % 2 = 1 := by omega
  have hc : (a ^^^ b) % 2 = 0 ∨ (a ^^^ b) % 2 = 1 := by omega
  rcases ha with ha | ha <;> rcases hb with hb | hb <;> rcases hc with hc | hc <;> simp [ha, hb, hc] at h <;> omega
def chS (r x : Int32) : Int32 := ((xsl r (1 : Int32)) ^^^ ((((xsu r (11 : Int32)) ^^^ x) &&& (1 : Int32)) * (2063 : Int32))) &&& (4095 : Int32)
def chL : Nat → Int32 → Int32 → Int32
  | 0, _, r => r
  | n + 1, B, r => chL n B (chS r (xsu B (nI n)))
def chF (B : Int32) : Int32 := chL 20 B 4095
theorem ck_C {B : Int32} {post : Int32 → SI → SJ → Prop} {I : SI} {J : SJ} : ∀ (n : Nat) (r : Int32), n ≤ 20 → post (chL n B r) I J → p_Co_checkOf_L7 B post (n + 1) r (nI n + (-1)) I J
  | 0, r, _, h => ⟨fun _ => h, fun hc => absurd (by decide) hc⟩
  | n + 1, r, hn, h => by
    rw [pk_m1]
    refine ⟨fun hc => absurd hc (nI_pos (by omega)), fun _ x3 h3 x4 h4 x5 h5 => ?_⟩
    subst h3; subst h4; subst h5
    exact ck_C n _ (by omega) h
theorem s_Co_checkOf {B : Int32} {post : Int32 → SI → SJ → Prop} {I : SI} {J : SJ} (h : post (chF B) I J) : p_Co_checkOf B post I J := by
  intro x1 h1 x2 h2
  subst h1; subst h2
  exact ⟨21, ck_C 20 4095 (by omega) h⟩
theorem chS_par (ρ q : Nat) (hρ : ρ < 4096) (hq : q < 2 ^ 31) : chS (nI ρ) (nI q) = chS (nI ρ) (nI (q % 2)) := by
  unfold chS
  have e : xsu (nI ρ) (11 : Int32) = nI (ρ / 2048) := xsu_N (j := 11) (by omega) (by decide)
  have hx : ∀ a b : Nat, a < 2 ^ 31 → b < 2 ^ 31 → (nI (a ^^^ b)) &&& (1 : Int32) = nI ((a + b) % 2) := by
    intro a b ha hb
    rw [and1_N (Nat.lt_of_lt_of_le (Nat.xor_lt_two_pow ha hb) (by decide))]
    congr 1
    exact xor_par a b
  rw [e, xor_N, xor_N, hx _ _ (by omega) hq, hx _ _ (by omega) (by omega)]
  congr 4
  omega
theorem ck_eq0 : ∀ u, u < 64 → ∀ v, v < 64 → (((64 * u + v) / 2048 % 2 = 0 → ((xsl (nI (64 * u + v)) (1 : Int32)) &&& (4095 : Int32)) = chS (nI (64 * u + v)) (nI 0) ∧ (((xsl (nI (64 * u + v)) (1 : Int32)) &&& (4095 : Int32)) ^^^ (2063 : Int32)) = chS (nI (64 * u + v)) (nI 1)) ∧ ((64 * u + v) / 2048 % 2 = 1 → ((xsl (nI (64 * u + v)) (1 : Int32)) &&& (4095 : Int32)) = chS (nI (64 * u + v)) (nI 1) ∧ (((xsl (nI (64 * u + v)) (1 : Int32)) &&& (4095 : Int32)) ^^^ (2063 : Int32)) = chS (nI (64 * u + v)) (nI 0))) ∧ (∀ β, β < 2 → (chS (nI (64 * u + v)) (nI β)).toBitVec.toNat < 4096 ∧ chS (nI (64 * u + v)) (nI β) = nI (chS (nI (64 * u + v)) (nI β)).toBitVec.toNat) := by decide +kernel
theorem ck_eq {ρ : Nat} (h : ρ < 4096) : ((ρ / 2048 % 2 = 0 → ((xsl (nI ρ) (1 : Int32)) &&& (4095 : Int32)) = chS (nI ρ) (nI 0) ∧ (((xsl (nI ρ) (1 : Int32)) &&& (4095 : Int32)) ^^^ (2063 : Int32)) = chS (nI ρ) (nI 1)) ∧ (ρ / 2048 % 2 = 1 → ((xsl (nI ρ) (1 : Int32)) &&& (4095 : Int32)) = chS (nI ρ) (nI 1) ∧ (((xsl (nI ρ) (1 : Int32)) &&& (4095 : Int32)) ^^^ (2063 : Int32)) = chS (nI ρ) (nI 0))) ∧ (∀ β, β < 2 → (chS (nI ρ) (nI β)).toBitVec.toNat < 4096 ∧ chS (nI ρ) (nI β) = nI (chS (nI ρ) (nI β)).toBitVec.toNat) := by
  have e : ρ = 64 * (ρ / 64) + ρ % 64 := by omega
  have h2 := ck_eq0 (ρ / 64) (by omega) (ρ % 64) (by omega)
  rw [← e] at h2
  exact h2
theorem ck_M {b : Nat} (hb : b < 2 ^ 20) {post : Int32 → SI → SJ → Prop} {I : SI} {J : SJ} : ∀ (n ρ : Nat), n ≤ 20 → ρ < 4096 → post (chL n (nI b) (nI ρ)) I J → p_Md_check_L7 (nI b) post (n + 1) (nI ρ) (nI n + (-1)) I J
  | 0, ρ, _, _, h => ⟨fun _ => h, fun hc => absurd (by decide) hc⟩
  | n + 1, ρ, hn, hρ, h => by
    rw [pk_m1]
    have e1 : (xsr (nI ρ) (11 : Int32)) &&& (1 : Int32) = nI (ρ / 2048 % 2) := by
      rw [show xsr (nI ρ) (11 : Int32) = nI (ρ / 2048) from xsr_N (j := 11) (by omega) (by decide), and1_N (by omega)]
    have e2 : (xsr (nI b) (nI n)) &&& (1 : Int32) = nI (b / 2 ^ n % 2) := by
      rw [xsr_N (by omega) (by omega), and1_N (Nat.lt_of_le_of_lt (Nat.div_le_self _ _) (by omega))]
    have hq : b / 2 ^ n < 2 ^ 31 := Nat.lt_of_le_of_lt (Nat.div_le_self _ _) (by omega)
    have e3 : xsu (nI b) (nI n) = nI (b / 2 ^ n) := xsu_N (by omega) (by omega)
    have h' : post (chL n (nI b) (chS (nI ρ) (nI (b / 2 ^ n % 2)))) I J := by
      rw [← chS_par ρ _ hρ hq, ← e3]
      exact h
    generalize hβ : b / 2 ^ n % 2 = β at e2 h'
    have hβ2 : β < 2 := by rw [← hβ]; exact Nat.mod_lt _ (by decide)
    generalize hγ : ρ / 2048 % 2 = γ at e1
    have hγ2 : γ < 2 := by rw [← hγ]; exact Nat.mod_lt _ (by decide)
    obtain ⟨⟨c0, c1⟩, c2⟩ := ck_eq hρ
    obtain ⟨d1, d2⟩ := c2 β hβ2
    have hend : p_Md_check_L7 (nI b) post (n + 1) (chS (nI ρ) (nI β)) (nI n + (-1)) I J := by
      rw [d2]
      refine ck_M hb n _ (by omega) d1 ?_
      rw [← d2]
      exact h'
    have hne : nI γ = nI β ↔ γ = β := nI_eq (by omega) (by omega)
    refine ⟨fun hc => absurd hc (nI_pos (by omega)), fun _ => ⟨fun hc => ?_, fun hc => ?_⟩⟩
    · rw [e1, e2, hne] at hc
      intro x3 h3
      subst h3
      refine ⟨fun _ x4 h4 => ?_, fun hz => absurd rfl hz⟩
      subst h4
      have : ((xsl (nI ρ) (1 : Int32)) &&& (4095 : Int32)) = chS (nI ρ) (nI β) := by
        have hc' : γ = 0 ∨ γ = 1 := by omega
        rcases hc' with h0 | h0
        · rw [← hc, h0]; exact (c0 (hγ.trans h0)).1
        · rw [← hc, h0]; exact (c1 (hγ.trans h0)).1
      rw [this]
      exact hend
    · rw [e1, e2, hne] at hc
      intro x3 h3
      subst h3
      refine ⟨fun hz => absurd hz (by decide), fun _ x5 h5 x4 h4 => ?_⟩
      subst h5; subst h4
      have : (((xsl (nI ρ) (1 : Int32)) &&& (4095 : Int32)) ^^^ (2063 : Int32)) = chS (nI ρ) (nI β) := by
        have hc' : (γ = 0 ∧ β = 1) ∨ (γ = 1 ∧ β = 0) := by omega
        rcases hc' with ⟨h0, h1⟩ | ⟨h0, h1⟩
        · rw [h1]; exact (c0 (hγ.trans h0)).2
        · rw [h1]; exact (c1 (hγ.trans h0)).2
      rw [this]
      exact hend
theorem s_Md_check {b : Nat} (hb : b < 2 ^ 20) {post : Int32 → SI → SJ → Prop} {I : SI} {J : SJ} (h : post (chF (nI b)) I J) : p_Md_check (nI b) post I J := by
  intro x1 h1 x2 h2
  subst h1; subst h2
  exact ⟨21, ck_M hb 20 4095 (by omega) (by omega) h⟩
