/-! a message that was not taken -/
theorem m_drw {m n : Nat} (hm : m < 8) (hn : n < 8) {B : SJ} (d i : Nat) (hi : i + d = n) (A : SI) (eA : A 19 m = nI n) :
    ∃ A', (∀ post : SI → SJ → Prop, post A' B → p_Md_again_L82 (nI m) post (d + 1) (nI i) A B) ∧ (∀ o, o ≠ 18 → A' o = A o) ∧ (∀ k, 8 * m + i ≤ k → k < 8 * m + n → A' 18 k = A 18 (k + 1)) ∧ (∀ k, k < 8 * m + i ∨ 8 * m + n ≤ k → A' 18 k = A 18 k) := by
  induction d generalizing A i with
  | zero =>
    refine ⟨A, fun post k => ⟨m, rfl, hm, fun _ => k, fun hx => absurd ?_ hx⟩, fun _ _ => rfl, fun k h1 h2 => by omega, fun _ _ => rfl⟩
    rw [eA, show n = i by omega]
    exact (nI_leI (a := i) (b := i) (by omega) (by omega)).mpr (Nat.le_refl _)
  | succ d ih =>
    obtain ⟨A', g, f1, f2, f3⟩ := ih (i + 1) (by omega) (xu A 18 (8 * m + i) (A 18 (8 * m + i + 1))) (by rw [xu_o _ _ _ (by decide)]; exact eA)
    refine ⟨A', fun post k => ⟨m, rfl, hm, fun hx => ?_, fun _ => ⟨8 * m + i + 1, ?_, by omega, 8 * m + i, ?_, by omega, fun I4 e4 x5 e5 => ?_⟩⟩, fun o ho => ?_, fun k h1 h2 => ?_, fun k h1 => ?_⟩
    · rw [eA] at hx; exact absurd hx (nI_ge (by omega) (by omega))
    · rw [show (8 : Int32) * nI m = nI (8 * m) from pk_mul 8 m, nI_add, nI_1]
    · rw [show (8 : Int32) * nI m = nI (8 * m) from pk_mul 8 m, nI_add]
    · rw [nI_1] at e5
      subst e4; subst e5
      exact g post k
    · rw [f1 o ho, xu_o _ _ _ ho]
    · by_cases e : k = 8 * m + i
      · subst e
        rw [f3 _ (by omega), xu_s]
      · rw [f2 k (by omega) h2, xu_k _ _ _ (by omega)]
    · rw [f3 k (by omega), xu_k _ _ _ (by omega)]
theorem y_again {I : SI} {J : SJ} {A : SI} {B : SJ} {m : Nat} (hm : m < 8) (h : rMob m I A) (s : ¬ I (22 + m) 3 = 0) (k7 : ¬ A 7 m = 0) :
    ∃ I' A', go (p_Mo_settleMessage m) I J I' J ∧ go (p_Md_again (nI m)) A B A' B ∧ rMob m I' A' ∧ oM m I I' A A' ∧ A' 3 = A 3 ∧ A' 12 = A 12 := by
  have hh := h
  obtain ⟨h1, h2, h3, h4, ⟨n, hn, n1, n2, n3⟩, h6, h7, h8, ⟨⟨t, t5, t1, t2⟩, t3⟩, ⟨k, w, r, k4, w16, r512, e7, k0, kn⟩⟩ := h
  have kz : k ≠ 0 := fun e => k7 (by rw [e7, e]; rfl)
  have cls : ∀ post : SI → SJ → Prop, (((nI (t + 1)) < (5 : Int32) → p_Mo_takeDraw m (fun r4 I2 J3 => ∀ I5, I5 = xu I2 (22 + m) 2 r4 → post I5 J3) (xu I (22 + m) 1 (nI (t + 1))) J) ∧ (¬ (nI (t + 1)) < (5 : Int32) → post (cPut (xu I (22 + m) 1 (nI (t + 1))) m 0) J)) → p_Mo_settleMessage m post I J := by
    intro post q
    refine ⟨fun _ I1 e1 => ?_, fun e => absurd e s⟩
    rw [t1, nI_1] at e1
    subst e1
    rw [xu_s]
    exact ⟨q.1, fun n => s_Me_drop (q.2 n)⟩
  have mdl : ∀ post : SI → SJ → Prop, ((¬ nI (t + 1) = (5 : Int32) → ((¬ (A 19 m) = (0) → ∀ I8, I8 = xu (xu A 10 m (nI (t + 1))) (11) m (A 18 (8 * m)) → ∀ I11, I11 = xu I8 (19) m ((I8 (19) m) - (1 : Int32)) → ∃ n19, p_Md_again_L82 (nI m) post n19 0 I11 B) ∧ ((A 19 m) = (0) → post (xu (xu A 10 m (nI (t + 1))) (11) m (1 : Int32)) B))) ∧ (nI (t + 1) = (5 : Int32) → post (mNo (xu A 10 m (nI (t + 1))) m) B)) → p_Md_again (nI m) post A B := by
    intro post q
    refine ⟨m, rfl, hm, m, rfl, hm, fun I3 e3 => ⟨m, rfl, hm, fun n5 => ⟨m, rfl, hm, fun nz => ⟨8 * m, pk_mul 8 m, by omega, m, rfl, hm, fun I8 e8 => ⟨m, rfl, hm, m, rfl, hm, fun I11 e11 x12 e12 => ?_⟩⟩, fun ez => ⟨m, rfl, hm, fun I21 e21 => ?_⟩⟩, fun e5 => s_Md_noMessage hm ?_⟩⟩
    · rw [t2, nI_1] at e3
      subst e3; subst e12
      rw [xu_s] at n5
      rw [xu_o _ _ _ (by decide)] at nz
      rw [xu_o _ _ _ (show 18 ≠ 10 by decide)] at e8
      exact (q.1 n5).1 nz I8 e8 I11 e11
    · rw [t2, nI_1] at e3
      subst e3; subst e21
      rw [xu_s] at n5
      rw [xu_o _ _ _ (by decide)] at ez
      exact (q.1 n5).2 ez
    · rw [t2, nI_1] at e3
      subst e3
      rw [xu_s] at e5
      exact q.2 e5
  have msg : ∀ (I' A' : SI), I' (22 + m) 0 = I (22 + m) 0 → A' 7 m = A 7 m → A' 8 m = A 8 m → A' 9 m = A 9 m → rMsg m I' A' := fun I' A' i0 a7 a8 a9 => ⟨k, w, r, k4, w16, r512, a7.trans e7, fun e => absurd e kz, fun z => by rw [i0, a8, a9]; exact kn z⟩
  by_cases z : t = 4
  · subst z
    have ec : cPut (xu I (22 + m) 1 (nI (4 + 1))) m 0 = cPut I m 0 := by
      funext a b
      simp only [cPut, xu_at]
      by_cases e : a = 22 + m
      · by_cases e1 : b = 1
        · simp [e, e1]
        · simp [e1]
      · simp [e]
    have em : mNo (xu A 10 m (nI (4 + 1))) m = mNo A m := by
      funext a b
      simp only [mNo, xu_at]
      by_cases e : a = 10
      · by_cases e1 : b = m
        · simp [e, e1]
        · simp [e1]
      · simp [e]
    rw [ec] at cls
    rw [em] at mdl
    exact ⟨cPut I m 0, mNo A m, fun post q => cls post ⟨fun e => absurd e (by decide), fun _ => q⟩, fun post q => mdl post ⟨fun n => absurd rfl n, fun _ => q⟩, drop_mob hh, oM.drop m I A, by funext k; simp [mNo, xu_at], by funext k; simp [mNo, xu_at]⟩
  · have l5 : nI (t + 1) < (5 : Int32) := nI_lt (b := 5) (by omega) (by decide)
    have n5 : ¬ nI (t + 1) = (5 : Int32) := fun e => z (by have := (nI_eq (b := 5) (by omega) (by decide)).mp e; omega)
    by_cases nz : n = 0
    · subst nz
      have nc : xu I (22 + m) 1 (nI (t + 1)) (14 + m) 3 = 0 := by
        rw [xu_o _ _ _ (by omega), n1]
        rfl
      refine ⟨xu (xu I (22 + m) 1 (nI (t + 1))) (22 + m) 2 1, xu (xu A 10 m (nI (t + 1))) 11 m 1, fun post q => cls post ⟨fun _ => ⟨fun n => absurd nc n, fun _ I5 e5 => ?_⟩, fun n => absurd l5 n⟩, fun post q => mdl post ⟨fun _ => ⟨fun n => absurd n2 n, fun _ => q⟩, fun e => absurd e n5⟩, ⟨?_, ?_, rCel_of h3 (by simp [xu_at]) (by simp [xu_at]), rSpk_of h4 (by simp [xu_at]) (by simp [xu_at]), rDrw_of ⟨0, hn, n1, n2, n3⟩ (by simp [xu_at]) (by simp [xu_at]) (by funext k; simp [xu_at]) (by funext k; simp [xu_at]), rPrs_of h6 (by simp [xu_at]) (by simp [xu_at]), rDo_of h7 (by simp [xu_at]) (by simp [xu_at]) (by simp [xu_at]) (by simp [xu_at]) (by simp [xu_at]) (by simp [xu_at]) (by simp [xu_at]), rGot_of h8 (by simp [xu_at]) (by simp [xu_at]) (by simp [xu_at]) (by simp [xu_at]) (by simp [xu_at]) (by simp [xu_at]) (by simp [xu_at]) (by simp [xu_at]), ⟨⟨t + 1, by omega, by simp [xu_at], by simp [xu_at]⟩, by simp [xu_at]⟩, msg _ _ (by simp [xu_at]) (by simp [xu_at]) (by simp [xu_at]) (by simp [xu_at])⟩, ?_, by funext k; simp [xu_at], by funext k; simp [xu_at]⟩
      · subst e5
        exact q
      · simpa [xu_at] using h1
      · simpa [xu_at] using h2
      · refine oM.mk1 (fun o k h1 h2 h3 => by simp [xu_at, h2]) (fun o k h => ?_)
        rw [xu_at, if_neg (by omega), xu_at, if_neg (by omega)]
    · obtain ⟨n, rfl⟩ : ∃ q, n = q + 1 := ⟨n - 1, by omega⟩
      have nc : ¬ xu I (22 + m) 1 (nI (t + 1)) (14 + m) 3 = 0 := by
        rw [xu_o _ _ _ (by omega), n1]
        exact nI_ne0 (by omega) (by omega)
      have nm : ¬ A 19 m = 0 := by
        rw [n2]
        exact nI_ne0 (by omega) (by omega)
      let A3 : SI := xu (xu (xu A 10 m (nI (t + 1))) 11 m (A 18 (8 * m))) 19 m (nI n)
      have a3 : ∀ o, o ≠ 10 → o ≠ 11 → o ≠ 19 → A3 o = A o := fun o h1 h2 h3 => by
        show xu (xu (xu A 10 m (nI (t + 1))) 11 m (A 18 (8 * m))) 19 m (nI n) o = A o
        rw [xu_o _ _ _ h3, xu_o _ _ _ h2, xu_o _ _ _ h1]
      have a3k : ∀ o k, k ≠ m → A3 o k = A o k := fun o k hk => by
        show xu (xu (xu A 10 m (nI (t + 1))) 11 m (A 18 (8 * m))) 19 m (nI n) o k = A o k
        rw [xu_at, if_neg (by omega), xu_at, if_neg (by omega), xu_at, if_neg (by omega)]
      have a10 : A3 10 m = nI (t + 1) := by
        show xu (xu (xu A 10 m (nI (t + 1))) 11 m (A 18 (8 * m))) 19 m (nI n) 10 m = _
        simp [xu_at]
      have a11 : A3 11 m = A 18 (8 * m) := by
        show xu (xu (xu A 10 m (nI (t + 1))) 11 m (A 18 (8 * m))) 19 m (nI n) 11 m = _
        simp [xu_at]
      obtain ⟨A4, g, f1, f2, f3⟩ := m_drw hm (n := n) (by omega) (B := B) n 0 (by omega) A3 (xu_s _ _ _ _)
      let I2 : SI := xu (xr (xu (xu I (22 + m) 1 (nI (t + 1))) (14 + m) 3 (nI n)) (30 + m) (va_cpy (I (30 + m)) (I (30 + m)) 1 0 n)) (22 + m) 2 (A 18 (8 * m))
      have i2 : ∀ o k, o ≠ 30 + m → I2 o k = xu (xu (xu I (22 + m) 1 (nI (t + 1))) (14 + m) 3 (nI n)) (22 + m) 2 (A 18 (8 * m)) o k := fun o k ho => by
        show xu (xr (xu (xu I (22 + m) 1 (nI (t + 1))) (14 + m) 3 (nI n)) (30 + m) (va_cpy (I (30 + m)) (I (30 + m)) 1 0 n)) (22 + m) 2 (A 18 (8 * m)) o k = _
        rw [xu_at, xu_at, xr_n _ _ ho]
      have i30 : I2 (30 + m) = va_cpy (I (30 + m)) (I (30 + m)) 1 0 n := by
        show xu (xr (xu (xu I (22 + m) 1 (nI (t + 1))) (14 + m) 3 (nI n)) (30 + m) (va_cpy (I (30 + m)) (I (30 + m)) 1 0 n)) (22 + m) 2 (A 18 (8 * m)) (30 + m) = _
        rw [xu_o _ _ _ (by omega), xr_s]
      have i14 : ∀ k, k ≠ 3 → I2 (14 + m) k = I (14 + m) k := fun k hk => by
        rw [i2 _ _ (by omega)]
        simp [xu_at, hk]
      have i22 : ∀ k, k ≠ 1 → k ≠ 2 → I2 (22 + m) k = I (22 + m) k := fun k h1 h2 => by
        rw [i2 _ _ (by omega)]
        simp [xu_at, h1, h2]
      have ax : ∀ o, o ≠ 10 → o ≠ 11 → o ≠ 19 → o ≠ 18 → A4 o m = A o m := fun o h1 h2 h3 h4 => by rw [f1 o h4, a3 o h1 h2 h3]
      refine ⟨I2, A4, fun post q => cls post ⟨fun _ => ⟨fun _ x1 e1 I6 e6 => ⟨1, 0, n, rfl, rfl, ?_, by omega, by omega, fun I7 e7 I8 e8 => ?_⟩, fun e => absurd e nc⟩, fun n => absurd l5 n⟩, fun post q => mdl post ⟨fun _ => ⟨fun _ I8 e8 I11 e11 => ?_, fun e => absurd e nm⟩, fun e => absurd e n5⟩, ⟨?_, ?_, rCel_of h3 (i14 6 (by decide)) (ax 3 (by decide) (by decide) (by decide) (by decide)), rSpk_of h4 (i14 5 (by decide)) (ax 17 (by decide) (by decide) (by decide) (by decide)), ⟨n, by omega, ?_, ?_, fun k hk => ?_⟩, rPrs_of h6 (i14 7 (by decide)) (ax 16 (by decide) (by decide) (by decide) (by decide)), rDo_of h7 (i14 8 (by decide)) (i14 9 (by decide)) (i14 10 (by decide)) (ax 13 (by decide) (by decide) (by decide) (by decide)) (ax 14 (by decide) (by decide) (by decide) (by decide)) (ax 15 (by decide) (by decide) (by decide) (by decide)) (ax 3 (by decide) (by decide) (by decide) (by decide)), rGot_of h8 (i14 11 (by decide)) (i14 12 (by decide)) (i14 13 (by decide)) (i14 14 (by decide)) (ax 20 (by decide) (by decide) (by decide) (by decide)) (ax 21 (by decide) (by decide) (by decide) (by decide)) (ax 22 (by decide) (by decide) (by decide) (by decide)) (ax 23 (by decide) (by decide) (by decide) (by decide)), ⟨⟨t + 1, by omega, ?_, ?_⟩, ?_⟩, msg _ _ (i22 0 (by decide) (by decide)) (ax 7 (by decide) (by decide) (by decide) (by decide)) (ax 8 (by decide) (by decide) (by decide) (by decide)) (ax 9 (by decide) (by decide) (by decide) (by decide))⟩, ⟨fun o h1 h2 h3 => ?_, fun o k _ _ _ h18 hk => ?_, fun k hk => ?_, fun o ho => ?_, fun k _ => ?_⟩, ?_, ?_⟩
      · rw [e6, xu_s, xu_o _ _ _ (by omega), n1, nI_pred]
      · rw [xu_o I _ _ (show 14 + m ≠ 22 + m by omega), n1, nI_pred] at e6
        rw [xu_o _ _ _ (show 30 + m ≠ 22 + m by omega), n3 0 (by omega)] at e1
        subst e6
        rw [xu_o _ _ _ (show 30 + m ≠ 14 + m by omega), xu_o _ _ _ (show 30 + m ≠ 22 + m by omega)] at e7
        subst e7; subst e1; subst e8
        exact q
      · subst e8
        rw [xu_o _ _ _ (show 19 ≠ 11 by decide), xu_o _ _ _ (show 19 ≠ 10 by decide), n2, nI_pred] at e11
        have e11' : I11 = A3 := e11
        subst e11'
        exact ⟨n + 1, g post q⟩
      · rw [i14 0 (by decide)]
        exact h1
      · rw [i14 4 (by decide), ax 4 (by decide) (by decide) (by decide) (by decide)]
        exact h2
      · rw [i2 _ _ (by omega)]
        simp [xu_at]
      · rw [f1 19 (by decide)]
        exact xu_s _ _ _ _
      · rw [i30, pk_cpy_in (by omega) (by omega), f2 _ (by omega) (by omega), a3 18 (by decide) (by decide) (by decide), show 1 + (k - 0) = k + 1 by omega]
        exact n3 (k + 1) (by omega)
      · rw [i2 _ _ (by omega)]
        simp [xu_at]
      · rw [f1 10 (by decide), a10]
      · rw [f1 11 (by decide), a11, i2 _ _ (by omega)]
        simp [xu_at]
      · funext k
        rw [i2 o k h3]
        simp [xu_at, h1, h2]
      · rw [f1 o h18, a3k o k hk]
      · rw [f3 k (by omega), a3 18 (by decide) (by decide) (by decide)]
      · rw [f1 o (by omega), a3 o (by omega) (by omega) (by omega)]
      · rw [f1 0 (by decide), a3 0 (by decide) (by decide) (by decide)]
      · rw [f1 3 (by decide), a3 3 (by decide) (by decide) (by decide)]
      · rw [f1 12 (by decide), a3 12 (by decide) (by decide) (by decide)]
