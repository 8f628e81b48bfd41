/-! how a block is laid out; how keys are mixed -/
def blk (k m w r : Nat) : Nat := k * 65536 + m * 8192 + w * 512 + r
theorem nI_or (a b : Nat) : nI a ||| nI b = nI (a ||| b) := by
  apply Int32.toBitVec_inj.mp
  show BitVec.ofNat 32 a ||| BitVec.ofNat 32 b = BitVec.ofNat 32 (a ||| b)
  apply BitVec.eq_of_getLsbD_eq
  intro i hi
  simp [hi]
theorem or_add {a b i : Nat} (h : b < 2 ^ i) : a * 2 ^ i ||| b = a * 2 ^ i + b := by
  rw [Nat.mul_comm, Nat.two_pow_add_eq_or_of_lt h]
theorem sl_16 {n : Nat} (h : n < 2 ^ 15) : xsl (nI n) 16 = nI (n * 65536) := pk_shlN _ 16 (by decide) (by omega)
theorem sl_13 {n : Nat} (h : n < 2 ^ 15) : xsl (nI n) 13 = nI (n * 8192) := pk_shlN _ 13 (by decide) (by omega)
theorem sl_11 {n : Nat} (h : n < 2 ^ 15) : xsl (nI n) 11 = nI (n * 2048) := pk_shlN _ 11 (by decide) (by omega)
theorem sl_9 {n : Nat} (h : n < 2 ^ 15) : xsl (nI n) 9 = nI (n * 512) := pk_shlN _ 9 (by decide) (by omega)
theorem bk_of {k m g l r : Nat} (hk : k < 16) (hm : m < 8) (hg : g < 4) (hl : l < 4) (hr : r < 512) : ((((xsl (nI k) 16 ||| xsl (nI m) 13) ||| xsl (nI g) 11) ||| xsl (nI l) 9) ||| nI r) = nI (blk k m (4 * g + l) r) := by
  rw [sl_16 (by omega), sl_13 (by omega), sl_11 (by omega), sl_9 (by omega), nI_or, nI_or, nI_or, nI_or]
  have e1 : k * 65536 ||| m * 8192 = (8 * k + m) * 8192 := by
    rw [show k * 65536 = k * 2 ^ 16 by omega, or_add (by omega)]
    omega
  have e2 : (8 * k + m) * 8192 ||| g * 2048 = (32 * k + 4 * m + g) * 2048 := by
    rw [show (8 * k + m) * 8192 = (8 * k + m) * 2 ^ 13 by omega, or_add (by omega)]
    omega
  have e3 : (32 * k + 4 * m + g) * 2048 ||| l * 512 = (128 * k + 16 * m + 4 * g + l) * 512 := by
    rw [show (32 * k + 4 * m + g) * 2048 = (32 * k + 4 * m + g) * 2 ^ 11 by omega, or_add (by omega)]
    omega
  have e4 : (128 * k + 16 * m + 4 * g + l) * 512 ||| r = blk k m (4 * g + l) r := by
    rw [show (128 * k + 16 * m + 4 * g + l) * 512 = (128 * k + 16 * m + 4 * g + l) * 2 ^ 9 by omega, or_add (by omega)]
    unfold blk
    omega
  rw [e1, e2, e3, e4]
theorem and_3 (x : Int32) : ∃ l, l < 4 ∧ x &&& (3 : Int32) = nI l := pk_andE x 2 (by decide)
theorem and_511 (x : Int32) : ∃ l, l < 512 ∧ x &&& (511 : Int32) = nI l := pk_andE x 9 (by decide)
theorem and_n3 {n : Nat} (h : n < 4) : nI n &&& (3 : Int32) = nI n := by rw [pk_andN (by omega) 2 (by decide), Nat.mod_eq_of_lt h]
theorem and_n511 {n : Nat} (h : n < 512) : nI n &&& (511 : Int32) = nI n := by rw [pk_andN (by omega) 9 (by decide), Nat.mod_eq_of_lt h]
theorem blk_lt {k m w r : Nat} (hk : k < 16) (hm : m < 8) (hw : w < 16) (hr : r < 512) : blk k m w r < 2 ^ 20 := by
  unfold blk
  omega
theorem s_Bk_of {k m g r : Nat} {p : Int32} {l : Nat} (hk : k < 16) (hm : m < 8) (hg : g < 4) (hl : l < 4) (hr : r < 512) (hp : p &&& (3 : Int32) = nI l) {post : Int32 → SI → SJ → Prop} {I : SI} {J : SJ} (h : post (nI (blk k m (4 * g + l) r)) I J) : p_Bk_of (nI k) (nI m) (nI g) p (nI r) post I J := by
  unfold p_Bk_of
  rw [hp, and_n511 hr, bk_of hk hm hg hl hr]
  exact h
theorem s_Md_control {k m g r l : Nat} (hk : k < 16) (hm : m < 8) (hg : g < 4) (hl : l < 4) (hr : r < 512) {post : Int32 → SI → SJ → Prop} {I : SI} {J : SJ} (h : post (nI (blk k m (4 * g + l) r)) I J) : p_Md_control (nI k) (nI m) (nI g) (nI l) (nI r) post I J := by
  unfold p_Md_control
  rw [bk_of hk hm hg hl hr]
  exact h
/- the fields -/
theorem fu_16 {b : Nat} (h : b < 2 ^ 20) : xsu (nI b) 16 &&& (15 : Int32) = nI (b / 65536) := by
  unfold xsu
  rw [pk_ushrN (by omega) 16 16 (by decide), pk_andN (by omega) 4 (by decide), Nat.mod_eq_of_lt (by omega)]
theorem fu_13 {b : Nat} (h : b < 2 ^ 20) : xsu (nI b) 13 &&& (7 : Int32) = nI (b / 8192 % 8) := by
  unfold xsu
  rw [pk_ushrN (by omega) 13 13 (by decide), pk_andN (by omega) 3 (by decide)]
theorem fu_11 {b : Nat} (h : b < 2 ^ 20) : xsu (nI b) 11 &&& (3 : Int32) = nI (b / 2048 % 4) := by
  unfold xsu
  rw [pk_ushrN (by omega) 11 11 (by decide), pk_andN (by omega) 2 (by decide)]
theorem fu_9 {b : Nat} (h : b < 2 ^ 20) : xsu (nI b) 9 &&& (3 : Int32) = nI (b / 512 % 4) := by
  unfold xsu
  rw [pk_ushrN (by omega) 9 9 (by decide), pk_andN (by omega) 2 (by decide)]
theorem fu_o {b : Nat} (h : b < 2 ^ 20) : xsu (nI b) 9 &&& (15 : Int32) = nI (b / 512 % 16) := by
  unfold xsu
  rw [pk_ushrN (by omega) 9 9 (by decide), pk_andN (by omega) 4 (by decide)]
theorem fr {b : Nat} (h : b < 2 ^ 20) : nI b &&& (511 : Int32) = nI (b % 512) := pk_andN (by omega) 9 (by decide)
theorem fs_16 {b : Nat} (h : b < 2 ^ 20) : xsr (nI b) 16 = nI (b / 65536) := pk_shrN (by omega) _ 16 (by decide)
theorem fs_13 {b : Nat} (h : b < 2 ^ 20) : xsr (nI b) 13 &&& (7 : Int32) = nI (b / 8192 % 8) := by
  rw [show xsr (nI b) 13 = nI (b / 2 ^ 13) from pk_shrN (by omega) _ 13 (by decide), pk_andN (by omega) 3 (by decide)]
theorem fs_11 {b : Nat} (h : b < 2 ^ 20) : xsr (nI b) 11 &&& (3 : Int32) = nI (b / 2048 % 4) := by
  rw [show xsr (nI b) 11 = nI (b / 2 ^ 11) from pk_shrN (by omega) _ 11 (by decide), pk_andN (by omega) 2 (by decide)]
theorem fs_9 {b : Nat} (h : b < 2 ^ 20) : xsr (nI b) 9 &&& (3 : Int32) = nI (b / 512 % 4) := by
  rw [show xsr (nI b) 9 = nI (b / 2 ^ 9) from pk_shrN (by omega) _ 9 (by decide), pk_andN (by omega) 2 (by decide)]
theorem sr_2 {b : Nat} (h : b < 2 ^ 20) : xsr (nI b) 2 = nI (b / 4) := pk_shrN (by omega) _ 2 (by decide)
theorem su_2 {b : Nat} (h : b < 2 ^ 20) : xsu (nI b) 2 = nI (b / 4) := by
  unfold xsu
  rw [pk_ushrN (by omega) 2 2 (by decide)]
/-- the mix of a key and a frame -/
def mxF (k n : Int32) : Int32 := (xsu ((((((k * 1103515245 + n) + 12345) * 1103515245 + n) + 12345) * 1103515245 + n) + 12345) 8) &&& 8388607
theorem z_TC_mix {k n : Int32} {post : Int32 → SI → SJ → Prop} {I : SI} {J : SJ} (h : post (mxF k n) I J) : p_TC_mix k n post I J := by
  intro x1 e1
  subst e1
  refine ⟨4, ⟨fun hc => absurd hc (by decide), fun _ x2 e2 x3 e3 => ⟨fun hc => ?_, fun _ x4 e4 x5 e5 => ⟨fun hc => ?_, fun _ x6 e6 x7 e7 => ⟨fun _ => ?_, fun hc => ?_⟩⟩⟩⟩⟩
  · subst e3; exact absurd hc (by decide)
  · subst e3; subst e5; exact absurd hc (by decide)
  · subst e2; subst e4; subst e6; exact h
  · subst e3; subst e5; subst e7; exact absurd (by decide) hc
theorem z_Md_mix {k n : Int32} {post : Int32 → SI → SJ → Prop} {I : SI} {J : SJ} (h : post (mxF k n) I J) : p_Md_mix k n post I J := by
  intro x1 e1
  subst e1
  refine ⟨4, ⟨fun hc => absurd hc (by decide), fun _ x2 e2 x3 e3 => ⟨fun hc => ?_, fun _ x4 e4 x5 e5 => ⟨fun hc => ?_, fun _ x6 e6 x7 e7 => ⟨fun _ => ?_, fun hc => ?_⟩⟩⟩⟩⟩
  · subst e3; exact absurd hc (by decide)
  · subst e3; subst e5; exact absurd hc (by decide)
  · subst e2; subst e4; subst e6; exact h
  · subst e3; subst e5; subst e7; exact absurd (by decide) hc
