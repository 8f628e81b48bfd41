/-! what one gets of a block, over the faults that were sent to it: class and reference alike -/
def rcN (b F : Nat) : Int32 := dcN (bsN (wdN b) 36 0 0 ^^^ F)
theorem bs_row {b F c : Nat} (hF : F < 2 ^ 54) : (bsF (wdN b) (trn (nI c)) ^^^ lN F) ^^^ trn (nI c) = lN (bsN (wdN b) 36 0 0 ^^^ F) ∧ bsN (wdN b) 36 0 0 ^^^ F < 2 ^ 54 := by
  obtain ⟨e, h⟩ := bsL_N (r := trn (nI c)) (w := wdN b) 36 0 0 (by decide)
  have e0 : lN 0 ^^^ trn (nI c) = trn (nI c) := Int64.zero_xor
  rw [e0] at e
  refine ⟨?_, Nat.xor_lt_two_pow h hF⟩
  unfold bsF
  rw [e, ← lx (by omega) (by omega), Int64.xor_assoc, Int64.xor_assoc, Int64.xor_comm (lN F), ← Int64.xor_assoc (trn (nI c)), Int64.xor_self, Int64.zero_xor]
theorem rc_0 {b : Nat} (hb : b < 2 ^ 20) : rcN b 0 = nI b := by
  obtain ⟨B, hB, e, h⟩ := dc_clean (b := b) (c := 0) hb (by decide)
  obtain ⟨e2, h2⟩ := bs_row (b := b) (F := 0) (c := 0) (by decide)
  have e3 : bsF (wdN b) (trn (nI 0)) ^^^ lN 0 = bsF (wdN b) (trn (nI 0)) := Int64.xor_zero
  rw [e3, e] at e2
  have e4 : B = bsN (wdN b) 36 0 0 ^^^ 0 := Nat.le_antisymm ((lN_le63 (by omega) (by omega)).mp (by rw [e2]; exact Int64.le_refl _)) ((lN_le63 (by omega) (by omega)).mp (by rw [e2]; exact Int64.le_refl _))
  unfold rcN
  rw [← e4]
  exact h
theorem s_TC_receive {I : SI} {J : SJ} (hs : hSum I) (hk : hCol J) {j b c F : Nat} (hj : j < 11) (hb : b < 2 ^ 20) (hc : c < 8) (hF : F < 2 ^ 54) (eF : J 13 j = lN F) {post : Int32 → SI → SJ → Prop}
    (h : ∀ J' : SJ, (∀ o, o ≠ 4 → o ≠ 5 → o ≠ 13 → J' o = J o) → (∀ k, k ≠ j → J' 13 k = J 13 k) → J' 13 j = lN 0 → post (rcN b F) I J') : p_TC_receive (nI j) (nI b) (nI c) post I J := by
  refine ⟨j, rfl, hj, fun x2 e2 => ⟨j, rfl, hj, fun J4 e4 => ?_⟩⟩
  rw [eF] at e2
  subst e2
  have k4 : ∀ o, o ≠ 13 → J4 o = J o := fun o ho => by rw [e4, xv_o J _ _ ho]
  have k5 : ∀ k, k ≠ j → J4 13 k = J 13 k := fun k hk => by rw [e4, xv_k J 13 _ hk]
  have k6 : J4 13 j = lN 0 := by
    rw [e4, xv_s]
    rfl
  have hk4 : hCol J4 := fun c hc => by
    rw [k4 2 (by decide)]
    exact hk c hc
  have ec : (nI c) &&& (7 : Int32) = nI c := by
    have : ∀ c, c < 8 → (nI c) &&& (7 : Int32) = nI c := by decide +kernel
    exact this c hc
  have eb : (nI b) &&& (1048575 : Int32) = nI b := by
    rw [pk_andN (by omega) 20 (by decide), Nat.mod_eq_of_lt hb]
  obtain ⟨e1, h1⟩ := bs_row (b := b) (c := c) hF
  refine ⟨fun _ => ?_, fun hz => ?_⟩
  · refine s_Co_burstOf hb hc eb ec hs hk4 ?_
    refine s_Co_blockOf hs hk4 hc ec (by omega) e1 ?_
    intro J' hJ'
    refine h J' (fun o h4 h5 h13 => (hJ' o h4 h5).trans (k4 o h13)) (fun k hk => ?_) ?_
    · rw [hJ' 13 (by decide) (by decide)]
      exact k5 k hk
    · rw [hJ' 13 (by decide) (by decide)]
      exact k6
  · have ez : lN F = lN 0 := (lg_cmp_eq _ _).mp hz
    have e0 : F = 0 := Nat.le_antisymm ((lN_le63 (by omega) (by omega)).mp (by rw [ez]; exact Int64.le_refl _)) (Nat.zero_le _)
    subst e0
    have := h J4 (fun o _ _ h13 => k4 o h13) k5 k6
    rw [rc_0 hb] at this
    exact this
theorem s_Md_gets {I : SI} {J : SJ} {j b c F : Nat} (hj : j < 11) (hb : b < 2 ^ 20) (hc : c < 7) (hF : F < 2 ^ 54) (eF : J 25 j = lN F) {post : Int32 → SI → SJ → Prop}
    (h : ∀ (I' : SI) (J' : SJ), (∀ o, o ≠ 0 → o ≠ 1 → o ≠ 2 → I' o = I o) → (∀ k, k ≠ 4 → I' 0 k = I 0 k) → (∀ o, o ≠ 0 → o ≠ 25 → J' o = J o) → (∀ k, k ≠ 3 → J' 0 k = J 0 k) → (∀ k, k ≠ j → J' 25 k = J 25 k) → J' 25 j = lN 0 → post (rcN b F) I' J') : p_Md_gets (nI j) (nI b) (nI c) post I J := by
  unfold p_Md_gets
  rw [nI_1]
  obtain ⟨e1, h1⟩ := bs_row (b := b) (c := c + 1) hF
  refine s_Md_burstOf hb (by omega) ⟨j, rfl, hj, fun x5 e5 => ⟨j, rfl, hj, fun J7 e7 => ?_⟩⟩
  rw [eF] at e5
  subst e5
  refine s_Md_blockOf (by omega) (by omega) e1 ?_
  intro I' J' a1 a2 a3 a4
  refine h I' J' a1 a2 (fun o h0 h25 => ?_) (fun k hk => ?_) (fun k hk => ?_) ?_
  · rw [a3 o h0, e7, xv_o J _ _ h25]
  · rw [a4 k hk, e7, xv_o J _ _ (by decide)]
  · rw [a3 25 (by decide), e7, xv_k J 25 _ hk]
  · rw [a3 25 (by decide), e7, xv_s]
    rfl
theorem dc_lt (P : Nat) : dcN P = (-1 : Int32) ∨ ∃ b, b < 2 ^ 20 ∧ dcN P = nI b := by
  unfold dcN
  have h2 := vL_lt (mmN P) 36 0
  split
  · exact Or.inr ⟨_, by omega, rfl⟩
  · exact Or.inl rfl
