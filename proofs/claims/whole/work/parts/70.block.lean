/-! the block that a burst gives, and its distance: class and reference alike -/
theorem vL_4 (mm : Nat → Nat → Nat → Nat) : ∀ k s, k ≤ 4 → vL mm k s = 0
  | 0, _, _ => rfl
  | k + 1, s, h => by
    rw [vL, if_pos (Or.inl (by omega))]
    exact vL_4 mm k _ (by omega)
theorem vL_16 (mm : Nat → Nat → Nat → Nat) : ∀ k s, 4 ≤ k → vL mm k s % 16 = 0
  | 0, _, h => absurd h (by omega)
  | k + 1, s, h => by
    by_cases h4 : k + 1 = 4
    · rw [vL_4 mm (k + 1) s (by omega)]
    · have i0 := vL_16 mm k (2 * s % 16) (by omega)
      have i1 := vL_16 mm k ((2 * s + 1) % 16) (by omega)
      have hp : 2 ^ k % 16 = 0 := by
        rw [show k = 4 + (k - 4) by omega, Nat.pow_add]
        exact Nat.mul_mod_right 16 _
      rw [vL]
      split <;> omega
theorem mm_mod (P : Nat) : mmN (P % 2 ^ 54) = mmN P := by
  have e : ∀ i, rb (P % 2 ^ 54) i = rb P i := fun i => by
    unfold rb
    have := plc_lt i
    have h : 2 ^ 54 = 2 ^ plc i * (2 * 2 ^ (53 - plc i)) := by
      rw [← Nat.pow_succ', ← Nat.pow_add]
      congr 1
      omega
    rw [h, Nat.mod_mul_right_div_self, Nat.mod_mul_right_mod]
  funext t s b
  unfold mmN
  rw [e, e]
def dcN (P : Nat) : Int32 := if vL (mmN P) 36 0 / 16 % 4096 = ckN (vL (mmN P) 36 0 / 65536) then nI (vL (mmN P) 36 0 / 65536) else (-1 : Int32)
theorem dc_mod (P : Nat) : dcN (P % 2 ^ 54) = dcN P := by
  unfold dcN
  rw [mm_mod]
theorem vK_G (P : Nat) : vK (mmN P) 36 0 = 1099511627776 * vC (mmN P) 36 0 + vL (mmN P) 36 0 := by
  rw [v_main (mmN P) (mmN_le P), vG_eq (mmN P) 36 0 (by omega)]
theorem s_Co_blockOf {I : SI} {J : SJ} (hs : hSum I) (hk : hCol J) {p1 : Int64} {p3 : Int32} {c P : Nat} (hc : c < 8) (e3 : p3 &&& (7 : Int32) = nI c) (hP : P < 2 ^ 64) (eP : p1 ^^^ trn (nI c) = lN P) {post : Int32 → SI → SJ → Prop} (h : ∀ J' : SJ, (∀ o, o ≠ 4 → o ≠ 5 → J' o = J o) → post (dcN P) I J') : p_Co_blockOf p1 p3 post I J := by
  refine s_Co_nearest hs hk hc e3 hP eP ?_
  intro J' hJ' x4 e4 x5 e5
  have h1 := vC_le (mmN P) (mmN_le P) 36 0
  have h2 := vL_lt (mmN P) 36 0
  have h3 := vL_16 (mmN P) 36 0 (by omega)
  have h' := h J' hJ'
  unfold dcN at h'
  rw [vK_G] at e4
  generalize vC (mmN P) 36 0 = C at *
  generalize vL (mmN P) 36 0 = L at *
  rw [show lN (1099511627776 * C + L) &&& (68719476735 : Int64) = lN ((1099511627776 * C + L) % 2 ^ 36) from wb_mask (k := 36) (by omega) (by decide), show (1099511627776 * C + L) % 2 ^ 36 = L by omega] at e4
  subst e4
  rw [show xlu (lN L) (16 : Int32) = lN (L / 2 ^ 16) from xlu_N (k := 16) (by omega) (by decide), lN_i, show L / 2 ^ 16 = L / 65536 from rfl] at e5
  subst e5
  have hb : L / 65536 < 2 ^ 20 := by omega
  have hw := (ckN_ok hb).1
  refine s_Co_wordOf hb ?_
  have hcmp : (lg_cmp (lN L) (lN (wdN (L / 65536))) = 0) ↔ L / 16 % 4096 = ckN (L / 65536) := by
    have hwl := wdN_lt hb
    rw [lg_cmp_eq]
    constructor
    · intro e
      have e1 : L ≤ wdN (L / 65536) := (lN_le63 (by omega) (by omega)).mp (by rw [← e]; exact Int64.le_refl _)
      have e2 : wdN (L / 65536) ≤ L := (lN_le63 (by omega) (by omega)).mp (by rw [← e]; exact Int64.le_refl _)
      unfold wdN at e1 e2
      omega
    · intro e
      congr 1
      unfold wdN
      omega
  refine ⟨fun hn => ?_, fun hn => ?_⟩
  · rw [if_neg (fun e => hn (hcmp.mpr e))] at h'
    exact h'
  · rw [if_pos (hcmp.mp hn)] at h'
    exact h'
theorem s_Md_blockOf {P c : Nat} (hP : P < 2 ^ 62) (hc : c < 14) {p1 : Int64} (eP : p1 ^^^ trn (nI c) = lN P) {post : Int32 → SI → SJ → Prop} {I : SI} {J : SJ}
    (h : ∀ (I' : SI) (J' : SJ), (∀ o, o ≠ 0 → o ≠ 1 → o ≠ 2 → I' o = I o) → (∀ k, k ≠ 4 → I' 0 k = I 0 k) → (∀ o, o ≠ 0 → J' o = J o) → (∀ k, k ≠ 3 → J' 0 k = J 0 k) → post (dcN P) I' J') : p_Md_blockOf p1 (nI c) post I J := by
  refine s_Md_nearest hP hc eP ?_
  intro I' J' k1 k2 _ k4 k5 k6 x3 e3
  have h' := h I' J' k1 k2 k4 k5
  unfold dcN at h'
  have h2 := vL_lt (mmN P) 36 0
  generalize vL (mmN P) 36 0 = L at *
  rw [k6] at e3 ⊢
  rw [show xlr (lN L) (16 : Int32) = lN (L / 2 ^ 16) from xlr_N (k := 16) (by omega) (by decide), lN_i, show L / 2 ^ 16 = L / 65536 from rfl] at e3
  subst e3
  have hb : L / 65536 < 2 ^ 20 := by omega
  have hw := (ckN_ok hb).1
  refine s_Md_check hb ?_
  rw [(ckN_ok hb).2, show xlr (lN L) (4 : Int32) = lN (L / 2 ^ 4) from xlr_N (k := 4) (by omega) (by decide), lN_i, pk_and _ (m := 4095) 12 (by decide)]
  have ex : (nI (L / 2 ^ 4)).toBitVec.toNat % 2 ^ 12 = L / 16 % 4096 := by
    show (BitVec.ofNat 32 _).toNat % 4096 = _
    rw [BitVec.toNat_ofNat]
    omega
  rw [ex]
  refine (pk_eq (L / 16 % 4096) (ckN (L / 65536)) (fun e => ?_) (fun e => ?_)).symm
  · rw [if_pos e] at h'
    exact h'
  · rw [if_neg e] at h'
    exact h'
theorem lx {a b : Nat} (ha : a < 2 ^ 64) (hb : b < 2 ^ 64) : lN a ^^^ lN b = lN (a ^^^ b) := by
  apply wb_inj
  rw [Int64.toBitVec_xor, wb_tb, wb_tb, wb_tb]
  apply BitVec.eq_of_toNat_eq
  rw [BitVec.toNat_xor, BitVec.toNat_ofNat, BitVec.toNat_ofNat, BitVec.toNat_ofNat, Nat.mod_eq_of_lt ha, Nat.mod_eq_of_lt hb, Nat.mod_eq_of_lt (Nat.xor_lt_two_pow ha hb)]
/-- the colour's row as a number -/
def tcN (c : Nat) : Nat := (trn (nI c)).toBitVec.toNat
theorem tc_ok : ∀ c, c < 8 → tcN c < 2 ^ 54 ∧ trn (nI c) = lN (tcN c) := by decide +kernel
theorem l_of (x : Int64) : ∃ A, A < 2 ^ 64 ∧ x = lN A := ⟨x.toBitVec.toNat, x.toBitVec.isLt, Int64.toBitVec_inj.mp (BitVec.eq_of_toNat_eq (by
  show x.toBitVec.toNat = (BitVec.ofNat 64 x.toBitVec.toNat).toNat
  rw [BitVec.toNat_ofNat, Nat.mod_eq_of_lt x.toBitVec.isLt]))⟩
/-- one number for both: the class's, and its 54 low bits the reference's -/
theorem both_P (p1 : Int64) {c : Nat} (hc : c < 8) : ∃ P, P < 2 ^ 64 ∧ p1 ^^^ trn (nI c) = lN P ∧ (p1 &&& (18014398509481983 : Int64)) ^^^ trn (nI c) = lN (P % 2 ^ 54) ∧ P % 2 ^ 54 < 2 ^ 62 := by
  obtain ⟨A, hA, rfl⟩ := l_of p1
  obtain ⟨h1, h2⟩ := tc_ok c hc
  have ha : A % 2 ^ 54 < 2 ^ 54 := Nat.mod_lt _ (by decide)
  refine ⟨A ^^^ tcN c, Nat.xor_lt_two_pow hA (by omega), ?_, ?_, ?_⟩
  · rw [h2]
    exact lx hA (by omega)
  · rw [h2, show lN A &&& (18014398509481983 : Int64) = lN (A % 2 ^ 54) from wb_mask (k := 54) hA (by decide), lx (by omega) (by omega), Nat.xor_mod_two_pow, Nat.mod_eq_of_lt h1]
  · exact Nat.lt_of_lt_of_le (Nat.mod_lt _ (by decide)) (by decide)
