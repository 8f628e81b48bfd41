/-! bursts -/
def g0 (j : Nat) : Nat := (j % 2 + j / 8 % 2 + j / 16 % 2) % 2
def g1 (j : Nat) : Nat := (j % 2 + j / 2 % 2 + j / 4 % 2 + j / 16 % 2) % 2
theorem g0_lt (j : Nat) : g0 j < 2 := Nat.mod_lt _ (by decide)
theorem g1_lt (j : Nat) : g1 j < 2 := Nat.mod_lt _ (by decide)
/-- the class's table of sums -/
def hSum (I : SI) : Prop := ∀ j, j < 32 → I 3 j = nI (g0 j + 2 * g1 j)
def bx (a : Int64) (v p : Nat) : Int64 := a ^^^ lN (v * 2 ^ p)
def plc (i : Nat) : Nat := 17 * i % 54
def bsS (w t : Nat) (a : Int64) : Int64 := if t % 2 = 0 then bx (bx a (g0 (w / 2 ^ (35 - t) % 32)) (plc ((3 * t + 1) / 2))) (g1 (w / 2 ^ (35 - t) % 32)) (plc ((3 * t + 1) / 2 + 1)) else bx a (g0 (w / 2 ^ (35 - t) % 32)) (plc ((3 * t + 1) / 2))
def bsL (w : Nat) : Nat → Nat → Int64 → Int64
  | 0, _, a => a
  | n + 1, t, a => bsL w n (t + 1) (bsS w t a)
/-- the burst of a word, on a row -/
def bsF (w : Nat) (row : Int64) : Int64 := bsL w 36 0 row
theorem and31_N (m : Nat) : (nI m) &&& (31 : Int32) = nI (m % 32) := by
  rw [pk_and (nI m) (m := 31) 5 (by decide)]
  congr 1
  show (BitVec.ofNat 32 m).toNat % 32 = m % 32
  rw [BitVec.toNat_ofNat]
  omega
theorem plc_lt (i : Nat) : plc i < 54 := Nat.mod_lt _ (by decide)
theorem xrm_N {a d : Nat} (ha : a < 2 ^ 31) (h0 : 0 < d) (hd : d < 2 ^ 31) : xrm (nI a) (nI d) = nI (a % d) := pk_rem ha h0 hd
theorem s_nextPlace {i : Nat} {post : Int32 → SI → SJ → Prop} {I : SI} {J : SJ} (h : post (nI (plc (i + 1))) I J) : p_Co_nextPlace (nI (plc i)) post I J := by
  show post (xrm (nI (plc i) + nI 17) (nI 54)) I J
  have := plc_lt i
  rw [nI_add, xrm_N (by omega) (by decide) (by decide)]
  have e : (plc i + 17) % 54 = plc (i + 1) := by unfold plc; omega
  rw [e]
  exact h
theorem bit_x {a : Int64} {v p : Nat} (hp : p < 64) (hv : v < 2) : a ^^^ (xll (Int32.toInt64 (nI v)) (nI p)) = bx a v p := by
  rw [nI_l (by omega), xll_N v hp]
  rfl
theorem w_bits {w t : Nat} (hw : w < 2 ^ 36) (ht : t < 36) : (Int64.toInt32 (xlu (lN w) ((35 : Int32) - nI t))) &&& (31 : Int32) = nI (w / 2 ^ (35 - t) % 32) := by
  rw [show (35 : Int32) - nI t = nI (35 - t) from pk_sub (a := 35) (by omega), xlu_N (by omega) (by omega), lN_i, and31_N]
theorem bs_C {p1 p2 : Int32} {post : Int64 → SI → SJ → Prop} {I : SI} {J : SJ} {w : Nat} (hw : w < 2 ^ 36) (hs : hSum I) : ∀ (n t : Nat) (a : Int64), t + n = 36 → post (bsL w n t a) I J → p_Co_burstOf_L25 p1 p2 post (n + 1) (lN w) a (nI (plc ((3 * t + 1) / 2))) (nI t) I J
  | 0, t, a, ht, h => by
    have e : t = 36 := by omega
    subst e
    exact ⟨fun _ => h, fun hc => absurd (by decide) hc⟩
  | n + 1, t, a, ht, h => by
    refine ⟨fun hc => absurd hc (nI_ge (a := t) (b := 36) (by omega) (by decide)), fun _ => ⟨w / 2 ^ (35 - t) % 32, w_bits hw (by omega), Nat.mod_lt _ (by decide), ?_⟩⟩
    rw [bsL] at h
    unfold bsS at h
    generalize hj : w / 2 ^ (35 - t) % 32 = j at h
    have hj32 : j < 32 := by rw [← hj]; exact Nat.mod_lt _ (by decide)
    have h0 := g0_lt j
    have h1 := g1_lt j
    intro x9 e9 x10 e10
    rw [hs j hj32] at e9
    subst e9
    have e91 : (nI (g0 j + 2 * g1 j)) &&& (1 : Int32) = nI (g0 j) := by
      rw [and1_N (by omega)]
      congr 1
      omega
    have e92 : xsu (nI (g0 j + 2 * g1 j)) (1 : Int32) = nI (g1 j) := by
      rw [show xsu (nI (g0 j + 2 * g1 j)) (1 : Int32) = nI ((g0 j + 2 * g1 j) / 2 ^ 1) from xsu_N (j := 1) (by omega) (by decide)]
      congr 1
      omega
    rw [e91, bit_x (Nat.lt_trans (plc_lt _) (by decide)) h0] at e10
    subst e10
    refine s_nextPlace ?_
    have ev : (nI t) &&& (1 : Int32) = nI (t % 2) := and1_N (by omega)
    by_cases hpar : t % 2 = 0
    · rw [if_pos hpar] at h
      refine ⟨fun hc => absurd (by rw [ev, hpar]; rfl) hc, fun _ => ⟨fun hc => absurd hc (by decide), fun _ x18 e18 => ?_⟩⟩
      rw [e92, bit_x (Nat.lt_trans (plc_lt _) (by decide)) h1] at e18
      subst e18
      refine s_nextPlace ?_
      intro x17 e17
      subst e17
      rw [nI_1, show (3 * t + 1) / 2 + 1 + 1 = (3 * (t + 1) + 1) / 2 by omega]
      exact bs_C hw hs n (t + 1) _ (by omega) h
    · rw [if_neg hpar] at h
      refine ⟨fun _ => ⟨fun _ => ?_, fun hc => absurd rfl hc⟩, fun hc => absurd (by rw [ev] at hc; exact hc) (nI_ne0 (by omega) (by omega))⟩
      intro x17 e17
      subst e17
      rw [nI_1, show (3 * t + 1) / 2 + 1 = (3 * (t + 1) + 1) / 2 by omega]
      exact bs_C hw hs n (t + 1) _ (by omega) h
/-- the class's rows of colours -/
def hCol (J : SJ) : Prop := ∀ c, c < 8 → J 2 c = trn (nI c)
theorem s_Co_burstOf {b c : Nat} (hb : b < 2 ^ 20) (hc : c < 8) {p1 p2 : Int32} (e1 : p1 &&& (1048575 : Int32) = nI b) (e2 : p2 &&& (7 : Int32) = nI c) {post : Int64 → SI → SJ → Prop} {I : SI} {J : SJ} (hs : hSum I) (hk : hCol J) (h : post (bsF (wdN b) (trn (nI c))) I J) : p_Co_burstOf p1 p2 post I J := by
  unfold p_Co_burstOf
  rw [e1]
  refine s_Co_wordOf hb ⟨c, e2, hc, ?_⟩
  intro x5 h5 x6 h6 x7 h7
  rw [hk c hc] at h5
  subst h5; subst h6; subst h7
  exact ⟨37, bs_C (wdN_lt hb) hs 36 0 _ rfl h⟩
