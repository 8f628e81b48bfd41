/-! coded, decoded, distance: class and reference alike -/
def lo3 (x : Int32) : Nat := x.toBitVec.toNat % 8
theorem lo3_ok (x : Int32) : lo3 x < 8 ∧ x &&& (7 : Int32) = nI (lo3 x) := ⟨Nat.mod_lt _ (by decide), pk_and x 3 (by decide)⟩
def lo20 (x : Int32) : Nat := x.toBitVec.toNat % 1048576
theorem lo20_ok (x : Int32) : lo20 x < 2 ^ 20 ∧ x &&& (1048575 : Int32) = nI (lo20 x) := ⟨Nat.mod_lt _ (by decide), pk_and x 20 (by decide)⟩
def cdF (p1 p2 : Int32) : Int64 := bsF (wdN (lo20 p1)) (trn (nI (lo3 p2)))
def rwN (p1 : Int64) (p3 : Int32) : Nat := (p1 ^^^ trn (nI (lo3 p3))).toBitVec.toNat
theorem rwN_eq {p1 : Int64} {p3 : Int32} {P : Nat} (hP : P < 2 ^ 64) (e : p1 ^^^ trn (nI (lo3 p3)) = lN P) : rwN p1 p3 = P := by
  unfold rwN
  rw [e, wb_tb, BitVec.toNat_ofNat, Nat.mod_eq_of_lt hP]
def deF (p1 : Int64) (p3 : Int32) : Int32 := dcN (rwN p1 p3)
def diF (p1 : Int64) (p3 : Int32) : Int32 := nI (vC (mmN (rwN p1 p3)) 36 0)
theorem s_TC_coded {I : SI} {J : SJ} (hs : hSum I) (hk : hCol J) {p1 p2 : Int32} {post : Int64 → SI → SJ → Prop} (h : post (cdF p1 p2) I J) : p_TC_coded p1 p2 post I J :=
  s_Co_burstOf (lo20_ok p1).1 (lo3_ok p2).1 (lo20_ok p1).2 (lo3_ok p2).2 hs hk h
theorem s_Md_coded {I : SI} {J : SJ} {p1 p2 : Int32} {post : Int64 → SI → SJ → Prop} (h : ∀ I' : SI, (∀ o, o ≠ 0 → I' o = I o) → (∀ k, k ≠ 0 → I' 0 k = I 0 k) → I' 0 0 = 0 → post (cdF p1 p2) I' J) : p_Md_coded p1 p2 post I J := by
  intro I1 e1
  rw [(lo20_ok p1).2, (lo3_ok p2).2]
  have := (lo3_ok p2).1
  exact s_Md_burstOf (lo20_ok p1).1 (by omega) (h I1 (fun o ho => by rw [e1, xu_o I _ _ ho]) (fun k hk => by rw [e1, xu_k I 0 _ hk]) (by rw [e1, xu_s]))
theorem s_TC_decoded {I : SI} {J : SJ} (hs : hSum I) (hk : hCol J) {p1 : Int64} {p3 : Int32} {post : Int32 → SI → SJ → Prop} (h : ∀ J' : SJ, (∀ o, o ≠ 4 → o ≠ 5 → J' o = J o) → post (deF p1 p3) I J') : p_TC_decoded p1 p3 post I J := by
  obtain ⟨P, hP, eP, _, _⟩ := both_P p1 (lo3_ok p3).1
  refine s_Co_blockOf hs hk (lo3_ok p3).1 (lo3_ok p3).2 hP eP ?_
  unfold deF at h
  rw [rwN_eq hP eP] at h
  exact h
theorem s_Md_decoded {I : SI} {J : SJ} {p1 : Int64} {p3 : Int32} {post : Int32 → SI → SJ → Prop}
    (h : ∀ (I' : SI) (J' : SJ), (∀ o, o ≠ 0 → o ≠ 1 → o ≠ 2 → I' o = I o) → (∀ k, k ≠ 0 → k ≠ 4 → I' 0 k = I 0 k) → I' 0 0 = 0 → (∀ o, o ≠ 0 → J' o = J o) → (∀ k, k ≠ 3 → J' 0 k = J 0 k) → post (deF p1 p3) I' J') : p_Md_decoded p1 p3 post I J := by
  obtain ⟨P, hP, eP, eM, hM⟩ := both_P p1 (lo3_ok p3).1
  intro I1 e1
  rw [(lo3_ok p3).2]
  have := (lo3_ok p3).1
  refine s_Md_blockOf hM (by omega) eM ?_
  intro I' J' a1 a2 a3 a4
  have h' := h I' J' (fun o h0 h1 h2 => by rw [a1 o h0 h1 h2, e1, xu_o I _ _ h0]) (fun k h0 h4 => by rw [a2 k h4, e1, xu_k I 0 _ h0]) (by rw [a2 0 (by decide), e1, xu_s]) a3 a4
  unfold deF at h'
  rw [rwN_eq hP eP, ← dc_mod] at h'
  exact h'
theorem s_TC_distance {I : SI} {J : SJ} (hs : hSum I) (hk : hCol J) {p1 : Int64} {p3 : Int32} {post : Int32 → SI → SJ → Prop} (h : ∀ J' : SJ, (∀ o, o ≠ 4 → o ≠ 5 → J' o = J o) → post (diF p1 p3) I J') : p_TC_distance p1 p3 post I J := by
  obtain ⟨P, hP, eP, _, _⟩ := both_P p1 (lo3_ok p3).1
  refine s_Co_nearest hs hk (lo3_ok p3).1 (lo3_ok p3).2 hP eP ?_
  intro J' hJ'
  have h' := h J' hJ'
  unfold diF at h'
  rw [rwN_eq hP eP] at h'
  have h1 := vC_le (mmN P) (mmN_le P) 36 0
  have h2 := vL_lt (mmN P) 36 0
  show post (Int64.toInt32 (xlu (lN (vK (mmN P) 36 0)) (40 : Int32))) I J'
  rw [vK_G, show xlu (lN (1099511627776 * vC (mmN P) 36 0 + vL (mmN P) 36 0)) (40 : Int32) = lN ((1099511627776 * vC (mmN P) 36 0 + vL (mmN P) 36 0) / 2 ^ 40) from xlu_N (k := 40) (by omega) (by decide), lN_i, show (1099511627776 * vC (mmN P) 36 0 + vL (mmN P) 36 0) / 2 ^ 40 = vC (mmN P) 36 0 by omega]
  exact h'
theorem s_Md_distance {I : SI} {J : SJ} {p1 : Int64} {p3 : Int32} {post : Int32 → SI → SJ → Prop}
    (h : ∀ (I' : SI) (J' : SJ), (∀ o, o ≠ 0 → o ≠ 1 → o ≠ 2 → I' o = I o) → (∀ k, k ≠ 0 → k ≠ 4 → I' 0 k = I 0 k) → I' 0 0 = 0 → (∀ o, o ≠ 0 → J' o = J o) → (∀ k, k ≠ 3 → J' 0 k = J 0 k) → post (diF p1 p3) I' J') : p_Md_distance p1 p3 post I J := by
  obtain ⟨P, hP, eP, eM, hM⟩ := both_P p1 (lo3_ok p3).1
  intro I1 e1
  rw [(lo3_ok p3).2]
  have := (lo3_ok p3).1
  refine s_Md_nearest hM (by omega) eM ?_
  intro I' J' a1 a2 a0 a3 a4 _
  have h' := h I' J' (fun o h0 h1 h2 => by rw [a1 o h0 h1 h2, e1, xu_o I _ _ h0]) (fun k h0 h4 => by rw [a2 k h4, e1, xu_k I 0 _ h0]) (by rw [a2 0 (by decide), e1, xu_s]) a3 a4
  unfold diF at h'
  rw [rwN_eq hP eP, ← mm_mod] at h'
  rw [a0]
  exact h'
