/-! mobiles send -/
def msgB (A : SI) (m b : Nat) : Prop := ∀ (A' : SI) (B' : SJ), A' 0 36 = A 0 36 → A' 4 m = A 4 m → A' 7 m = A 7 m → A' 8 m = A 8 m → A' 9 m = A 9 m → gi (p_Md_message (nI m)) A' B' (nI b) A' B'
theorem y_msg {I : SI} {J : SJ} {A : SI} {m : Nat} (hm : m < 8) (h : rMob m I A) (hk : ¬ A 7 m = 0) :
    ∃ b, b < 2 ^ 20 ∧ gi (p_Mo_messageBlock m (A 0 36 / 4)) I J (nI b) I J ∧ msgB A m b := by
  obtain ⟨_, h2, _, _, _, _, _, _, _, ⟨k, w, r, k4, w16, r512, e7, k0, kn⟩⟩ := h
  have kz : k ≠ 0 := fun e => hk (by rw [e7, e]; rfl)
  obtain ⟨e8, e9, eb, e1⟩ := kn kz
  have hB := blk_lt (k := k) (m := m) (w := w) (r := r) (by omega) hm w16 r512
  have ek : blk k m w r / 65536 = k := by
    unfold blk
    omega
  have w3 : nI w &&& (3 : Int32) = nI (w % 4) := pk_andN (by omega) 2 (by decide)
  by_cases z : k = 1
  · subst z
    obtain ⟨rfl, rfl⟩ := e1 rfl
    obtain ⟨x, hx, ex⟩ := and_511 (mxF (A 4 m) (A 0 36 / 4))
    have ob : nI (blk 1 m 0 0) ||| nI x = nI (blk 1 m 0 x) := by
      rw [nI_or]
      congr 1
      unfold blk
      rw [show 1 * 65536 + m * 8192 + 0 * 512 + 0 = (128 + m * 16) * 2 ^ 9 by omega, or_add (by omega)]
    refine ⟨blk 1 m 0 x, blk_lt (by omega) hm (by omega) hx, fun post q => ?_, fun A' B' a0 a4 a7 a8 a9 post q => ?_⟩
    · unfold p_Mo_messageBlock p_Me_kind p_Bk_kindOf
      rw [eb, fu_16 hB, ek]
      refine ⟨fun hx => absurd rfl hx, fun _ => z_TC_mix ?_⟩
      rw [h2, ex, eb, ob]
      exact q
    · refine ⟨m, rfl, hm, fun hx => absurd (a7.trans e7) hx, fun _ => ⟨m, rfl, hm, z_Md_mix (fun x14 e14 => ⟨m, rfl, hm, m, rfl, hm, m, rfl, hm, ?_⟩)⟩⟩
      rw [a4, a0, ex] at e14
      subst e14
      rw [a7, e7, a8, e8]
      rw [show xsr (nI 0) 2 = nI 0 from by decide, show (nI 0) &&& (3 : Int32) = nI 0 from by decide]
      exact s_Md_control (by omega) hm (by omega) (by omega) hx q
  · have nk : ¬ nI k = (1 : Int32) := fun e => z ((nI_eq (b := 1) (by omega) (by decide)).mp e)
    refine ⟨blk k m w r, hB, fun post q => ?_, fun A' B' a0 a4 a7 a8 a9 post q => ?_⟩
    · unfold p_Mo_messageBlock p_Me_kind p_Bk_kindOf
      rw [eb, fu_16 hB, ek]
      exact ⟨fun _ => by rw [eb]; exact q, fun hx => absurd hx nk⟩
    · refine ⟨m, rfl, hm, fun _ => ⟨m, rfl, hm, fun x3 e3 => ⟨m, rfl, hm, m, rfl, hm, m, rfl, hm, ?_⟩⟩, fun hx => absurd ((e7.symm.trans (a7.symm.trans hx))) nk⟩
      rw [a9, e9] at e3
      subst e3
      rw [a7, e7, a8, e8, sr_2 (by omega), w3]
      refine s_Md_control (by omega) hm (by omega) (by omega) r512 ?_
      rw [show 4 * (w / 4) + w % 4 = w by omega]
      exact q
/-- who has sent in this cell's slot, of the first n mobiles -/
def Sn (c n : Nat) (I A : SI) : Prop := ∀ m, m < n → (A 3 m = nI c → (I (22 + m) 3 = 0 ↔ A 12 m = 0 ∨ A 7 m = 0)) ∧ (¬ A 3 m = nI c → A 12 m = 0)
/-- one mobile's turn to send -/
theorem y_up {I : SI} {J : SJ} {A : SI} {B : SJ} {m c : Nat} (hm : m < 8) (hc : c < 3) (h : rMob m I A) :
    ∃ I' A' up b, b < 2 ^ 20 ∧ (∀ (post : Int32 → SI → SJ → Prop) (k8 : Int32 → Int32 → Int32 → SI → SJ → Prop) (s : Nat) (v4 : Int32), k8 (nI (if up then s + 1 else s)) (if up then nI b else v4) (nI (m + 1)) I' J → ((¬ (I (14 + m) 6) = nI c → p_TC_sendMessages_66 (nI c) (A 0 36 / 4) post k8 (nI s) v4 (nI m) I J) ∧ ((I (14 + m) 6) = nI c → p_Me_isThere m (fun r8 I6 J7 => ((r8 = (0) → p_TC_sendMessages_66 (nI c) (A 0 36 / 4) post k8 (nI s) v4 (nI m) I6 J7) ∧ (¬ r8 = (0) → p_Me_comesUp m (fun r11 I9 J10 => ((r11 = (0) → p_TC_sendMessages_66 (nI c) (A 0 36 / 4) post k8 (nI s) v4 (nI m) I9 J10) ∧ (¬ r11 = (0) → ∀ x12, x12 = nI s + (1 : Int32) → p_Mo_messageBlock m (A 0 36 / 4) (fun r15 I13 J14 => p_TC_sendMessages_66 (nI c) (A 0 36 / 4) post k8 x12 r15 (nI m) I13 J14) I9 J10))) I6 J7))) I J))) ∧
      (∀ (post : SI → SJ → Prop) (k7 : Int32 → Int32 → Int32 → SI → SJ → Prop) (s : Nat) (v3 : Int32), k7 (nI (if up then s + 1 else s)) (if up then nI m else v3) (nI (m + 1)) A' B → (∃ j4, nI m = nI j4 ∧ j4 < 8 ∧ ∀ I5, I5 = xu A (12) j4 (0 : Int32) → ∃ j6, nI m = nI j6 ∧ j6 < 8 ∧ ((¬ (I5 (3) j6) = nI c → p_Md_controlSlot_86 (nI c) post k7 (nI s) v3 (nI m) I5 B) ∧ ((I5 (3) j6) = nI c → ∃ j8, nI m = nI j8 ∧ j8 < 8 ∧ (((I5 (7) j8) ≤ (0) → p_Md_controlSlot_86 (nI c) post k7 (nI s) v3 (nI m) I5 B) ∧ (¬ (I5 (7) j8) ≤ (0) → ∃ j9, nI m = nI j9 ∧ j9 < 8 ∧ ((¬ (I5 (11) j9) = (0) → ∃ j10, nI m = nI j10 ∧ j10 < 8 ∧ ∃ j11, nI m = nI j11 ∧ j11 < 8 ∧ ∀ I12, I12 = xu I5 (11) j11 ((I5 (11) j10) - (1 : Int32)) → p_Md_controlSlot_86 (nI c) post k7 (nI s) v3 (nI m) I12 B) ∧ ((I5 (11) j9) = (0) → ∃ j13, nI m = nI j13 ∧ j13 < 8 ∧ ∀ I14, I14 = xu I5 (12) j13 (1 : Int32) → ∀ x15, x15 = nI s + (1 : Int32) → p_Md_controlSlot_86 (nI c) post k7 x15 (nI m) (nI m) I14 B)))))))) ∧
      rMob m I' A' ∧ (up = true → msgB A' m b) ∧ (A 3 m = nI c → (I' (22 + m) 3 = 0 ↔ A' 12 m = 0 ∨ A' 7 m = 0)) ∧ (¬ A 3 m = nI c → A' 12 m = 0) ∧ (∀ o, o ≠ 22 + m → I' o = I o) ∧ (∀ o, o ≠ 11 → o ≠ 12 → A' o = A o) ∧ (∀ o k, k ≠ m → A' o k = A o k) := by
  have hh := h
  obtain ⟨h1, h2, ⟨h3, h3'⟩, h4, h5, h6, h7, h8, ⟨⟨t, t5, t1, t2⟩, t3⟩, ⟨k, w, r, k4, w16, r512, e7, k0, kn⟩⟩ := h
  have e1 : nI m + 1 = nI (m + 1) := nI_1 m
  have a12 : ∀ o, o ≠ 12 → xu A 12 m 0 o = A o := fun o ho => xu_o _ _ _ ho
  have m0 : rMob m I (xu A 12 m 0) := rMob_of hh rfl rfl rfl (fun o _ _ _ _ _ ho => by rw [a12 o ho]) (fun k _ => by rw [a12 18 (by decide)])
  by_cases ic : A 3 m = nI c
  · have ic' : I (14 + m) 6 = nI c := h3.trans ic
    by_cases z : k = 0
    · subst z
      obtain ⟨z0, z3, z10, z11⟩ := k0 rfl
      have e70 : A 7 m = 0 := e7
      refine ⟨I, xu A 12 m 0, false, 0, by decide, fun post k8 s v4 q => ⟨fun hx => absurd ic' hx, fun _ => ⟨fun _ => ⟨fun _ x e => ?_, fun hx => absurd rfl hx⟩, fun hx => absurd z0 hx⟩⟩, fun post k7 s v3 q => ⟨m, rfl, hm, fun I5 e5 => ⟨m, rfl, hm, fun hx => ?_, fun _ => ⟨m, rfl, hm, fun _ x e => ?_, fun hx => ?_⟩⟩⟩, m0, fun e => absurd e Bool.false_ne_true, fun _ => ⟨fun _ => Or.inr (by rw [a12 7 (by decide)]; exact e70), fun _ => z3⟩, fun hx => absurd ic hx, fun _ _ => rfl, fun o _ ho => a12 o ho, fun o q hq => ?_⟩
      · rw [e1] at e
        subst e
        exact q
      · subst e5
        rw [a12 3 (by decide)] at hx
        exact absurd ic hx
      · subst e5
        rw [e1] at e
        subst e
        exact q
      · subst e5
        rw [a12 7 (by decide), e70] at hx
        exact absurd (by decide) hx
      · by_cases eo : o = 12
        · subst eo
          exact xu_k _ _ _ hq
        · rw [a12 o eo]
    · obtain ⟨e8, e9, eb, kx⟩ := kn z
      have n7 : ¬ A 7 m = 0 := by rw [e7]; exact nI_ne0 (by omega) (by omega)
      have n7' : ¬ A 7 m ≤ 0 := by rw [e7]; exact nI_nle (by omega) (by omega)
      have nb : ¬ I (22 + m) 0 = 0 := by
        rw [eb]
        exact nI_ne0 (by unfold blk; omega) (Nat.lt_trans (blk_lt (by omega) hm w16 r512) (by decide))
      by_cases d : A 11 m = 0
      · have d' : I (22 + m) 2 = 0 := t3.trans d
        have i22 : ∀ q, q ≠ 3 → xu I (22 + m) 3 1 (22 + m) q = I (22 + m) q := fun q hq => xu_k _ _ _ hq
        have ii : ∀ o, o ≠ 22 + m → xu I (22 + m) 3 1 o = I o := fun o ho => xu_o _ _ _ ho
        have aa : ∀ o, o ≠ 12 → xu (xu A 12 m 0) 12 m 1 o = A o := fun o ho => by rw [xu_o _ _ _ ho, xu_o _ _ _ ho]
        have mm : rMob m (xu I (22 + m) 3 1) (xu (xu A 12 m 0) 12 m 1) := by
          unfold rMob rCel rSpk rDrw rPrs rDo rGot rTry rMsg
          rw [ii (14 + m) (by omega), ii (30 + m) (by omega), i22 0 (by decide), i22 1 (by decide), i22 2 (by decide), aa 4 (by decide), aa 3 (by decide), aa 17 (by decide), aa 19 (by decide), aa 18 (by decide), aa 16 (by decide), aa 13 (by decide), aa 14 (by decide), aa 15 (by decide), aa 20 (by decide), aa 21 (by decide), aa 22 (by decide), aa 23 (by decide), aa 10 (by decide), aa 11 (by decide), aa 7 (by decide), aa 8 (by decide), aa 9 (by decide)]
          exact ⟨h1, h2, ⟨h3, h3'⟩, h4, h5, h6, h7, h8, ⟨⟨t, t5, t1, t2⟩, t3⟩, ⟨k, w, r, k4, w16, r512, e7, fun e => absurd e z, kn⟩⟩
        obtain ⟨b, hb, gb, mb⟩ := y_msg (J := J) hm mm (by rw [aa 7 (by decide)]; exact n7)
        rw [aa 0 (by decide)] at gb
        refine ⟨xu I (22 + m) 3 1, xu (xu A 12 m 0) 12 m 1, true, b, hb, fun post k8 s v4 q => ⟨fun hx => absurd ic' hx, fun _ => ⟨fun hx => absurd hx nb, fun _ => ⟨fun hx => absurd hx (by decide), fun _ => ⟨fun hx => absurd d' hx, fun _ => ⟨Or.inr rfl, fun I1 e1' => ?_⟩⟩⟩⟩⟩, fun post k7 s v3 q => ⟨m, rfl, hm, fun I5 e5 => ⟨m, rfl, hm, fun hx => ?_, fun _ => ⟨m, rfl, hm, fun hx => ?_, fun _ => ⟨m, rfl, hm, fun hx => ?_, fun _ => ⟨m, rfl, hm, fun I14 e14 x15 e15 x e => ?_⟩⟩⟩⟩⟩, mm, fun _ => mb, fun _ => ?_, fun hx => absurd ic hx, ii, fun o _ ho => aa o ho, fun o q hq => ?_⟩
        · subst e1'
          refine ⟨fun _ => ⟨Or.inr (xu_s _ _ _ _), ?_⟩, fun hx => absurd ((xu_s I (22 + m) 3 1).symm.trans hx) (by decide)⟩
          rw [xu_s]
          refine ⟨fun hx => absurd hx (by decide), fun _ x12 e12 => gb _ (fun x e => ?_)⟩
          rw [nI_1] at e12
          rw [e1] at e
          subst e12; subst e
          exact q
        · subst e5
          rw [a12 3 (by decide)] at hx
          exact absurd ic hx
        · subst e5
          rw [a12 7 (by decide)] at hx
          exact absurd hx n7'
        · subst e5
          rw [a12 11 (by decide)] at hx
          exact absurd d hx
        · subst e5; subst e14
          rw [nI_1] at e15
          rw [e1] at e
          subst e15; subst e
          exact q
        · rw [xu_s, xu_s, aa 7 (by decide)]
          exact ⟨fun e => absurd e (by decide), fun e => absurd (e.resolve_right n7) (by decide)⟩
        · by_cases eo : o = 12
          · subst eo
            rw [xu_k _ _ _ hq, xu_k _ _ _ hq]
          · rw [aa o eo]
      · have d' : ¬ I (22 + m) 2 = 0 := fun e => d (t3.symm.trans e)
        have i22 : ∀ q, q ≠ 3 → q ≠ 2 → xu (xu I (22 + m) 3 0) (22 + m) 2 (A 11 m - 1) (22 + m) q = I (22 + m) q := fun q hq hq2 => by rw [xu_k _ _ _ hq2, xu_k _ _ _ hq]
        have ii : ∀ o, o ≠ 22 + m → xu (xu I (22 + m) 3 0) (22 + m) 2 (A 11 m - 1) o = I o := fun o ho => by rw [xu_o _ _ _ ho, xu_o _ _ _ ho]
        have aa : ∀ o, o ≠ 11 → o ≠ 12 → xu (xu A 12 m 0) 11 m (A 11 m - 1) o = A o := fun o h1 h2 => by rw [xu_o _ _ _ h1, xu_o _ _ _ h2]
        have mm : rMob m (xu (xu I (22 + m) 3 0) (22 + m) 2 (A 11 m - 1)) (xu (xu A 12 m 0) 11 m (A 11 m - 1)) := by
          unfold rMob rCel rSpk rDrw rPrs rDo rGot rTry rMsg
          rw [ii (14 + m) (by omega), ii (30 + m) (by omega), i22 0 (by decide) (by decide), i22 1 (by decide) (by decide), xu_s, xu_s, aa 4 (by decide) (by decide), aa 3 (by decide) (by decide), aa 17 (by decide) (by decide), aa 19 (by decide) (by decide), aa 18 (by decide) (by decide), aa 16 (by decide) (by decide), aa 13 (by decide) (by decide), aa 14 (by decide) (by decide), aa 15 (by decide) (by decide), aa 20 (by decide) (by decide), aa 21 (by decide) (by decide), aa 22 (by decide) (by decide), aa 23 (by decide) (by decide), aa 10 (by decide) (by decide), aa 7 (by decide) (by decide), aa 8 (by decide) (by decide), aa 9 (by decide) (by decide)]
          exact ⟨h1, h2, ⟨h3, h3'⟩, h4, h5, h6, h7, h8, ⟨⟨t, t5, t1, t2⟩, rfl⟩, ⟨k, w, r, k4, w16, r512, e7, fun e => absurd e z, kn⟩⟩
        refine ⟨xu (xu I (22 + m) 3 0) (22 + m) 2 (A 11 m - 1), xu (xu A 12 m 0) 11 m (A 11 m - 1), false, 0, by decide, fun post k8 s v4 q => ⟨fun hx => absurd ic' hx, fun _ => ⟨fun hx => absurd hx nb, fun _ => ⟨fun hx => absurd hx (by decide), fun _ => ⟨fun _ => ⟨Or.inl rfl, fun I1 e1' => ?_⟩, fun hx => absurd hx d'⟩⟩⟩⟩, fun post k7 s v3 q => ⟨m, rfl, hm, fun I5 e5 => ⟨m, rfl, hm, fun hx => ?_, fun _ => ⟨m, rfl, hm, fun hx => ?_, fun _ => ⟨m, rfl, hm, fun _ => ⟨m, rfl, hm, m, rfl, hm, fun I12 e12 x e => ?_⟩, fun hx => ?_⟩⟩⟩⟩, mm, fun e => absurd e Bool.false_ne_true, fun _ => ?_, fun hx => absurd ic hx, ii, fun o h1 h2 => aa o h1 h2, fun o q hq => ?_⟩
        · subst e1'
          refine ⟨fun hx => absurd (xu_s I (22 + m) 3 0) hx, fun _ I2 e2 => ?_⟩
          rw [xu_k _ _ _ (by decide), t3] at e2
          subst e2
          have es : xu (xu I (22 + m) 3 0) (22 + m) 2 (A 11 m - 1) (22 + m) 3 = 0 := by rw [xu_k _ _ _ (by decide), xu_s]
          rw [es]
          refine ⟨Or.inl rfl, ⟨fun _ x e => ?_, fun hx => absurd rfl hx⟩⟩
          rw [e1] at e
          subst e
          exact q
        · subst e5
          rw [a12 3 (by decide)] at hx
          exact absurd ic hx
        · subst e5
          rw [a12 7 (by decide)] at hx
          exact absurd hx n7'
        · subst e5
          rw [a12 11 (by decide)] at e12
          rw [e1] at e
          subst e12; subst e
          exact q
        · subst e5
          rw [a12 11 (by decide)] at hx
          exact absurd hx d
        · rw [xu_k _ _ _ (by decide), xu_s, xu_o _ _ _ (show 12 ≠ 11 by decide), xu_s]
          exact ⟨fun _ => Or.inl rfl, fun _ => rfl⟩
        · by_cases eo : o = 11
          · subst eo
            rw [xu_k _ _ _ hq, xu_o _ _ _ (by decide)]
          · by_cases ep : o = 12
            · subst ep
              rw [xu_o _ _ _ (by decide), xu_k _ _ _ hq]
            · rw [aa o eo ep]
  · refine ⟨I, xu A 12 m 0, false, 0, by decide, fun post k8 s v4 q => ⟨fun _ x e => ?_, fun hx => absurd (h3.symm.trans hx) ic⟩, fun post k7 s v3 q => ⟨m, rfl, hm, fun I5 e5 => ⟨m, rfl, hm, fun _ x e => ?_, fun hx => ?_⟩⟩, m0, fun e => absurd e Bool.false_ne_true, fun hx => absurd hx ic, fun _ => xu_s _ _ _ _, fun _ _ => rfl, fun o _ ho => a12 o ho, fun o q hq => ?_⟩
    · rw [e1] at e
      subst e
      exact q
    · subst e5
      rw [e1] at e
      subst e
      exact q
    · subst e5
      rw [a12 3 (by decide)] at hx
      exact absurd hx ic
    · by_cases eo : o = 12
      · subst eo
        exact xu_k _ _ _ hq
      · rw [a12 o eo]
theorem y_sendl {J B : SJ} {c : Nat} (hc : c < 3) {T : Int32} (k j : Nat) (hj : j + k = 8) (I A : SI) (eT : A 0 36 = T) (s : Nat) (v4 v3 : Int32) (hM : MI I A) (hS : Sn c j I A) (hs : s ≤ j) (h1 : s = 1 → ∃ m b, m < 8 ∧ b < 2 ^ 20 ∧ v3 = nI m ∧ v4 = nI b ∧ msgB A m b) :
    ∃ I' A' s' v4' v3', s' ≤ 8 ∧ (∀ (post : Int32 → SI → SJ → Prop) (k72 : Int32 → Int32 → SI → SJ → Prop), k72 (nI s') v4' I' J → p_TC_sendMessages_L8 (nI c) (T / 4) post k72 (k + 1) (nI s) v4 (nI j) I J) ∧ (∀ (post : SI → SJ → Prop) (k92 : Int32 → Int32 → SI → SJ → Prop), k92 (nI s') v3' A' B → p_Md_controlSlot_L7 (nI c) post k92 (k + 1) (nI s) v3 (nI j) A B) ∧ MI I' A' ∧ Sn c 8 I' A' ∧ (s' = 1 → ∃ m b, m < 8 ∧ b < 2 ^ 20 ∧ v3' = nI m ∧ v4' = nI b ∧ msgB A' m b) ∧ (∀ o, o < 14 ∨ 30 ≤ o → I' o = I o) ∧ (∀ o, o ≠ 11 → o ≠ 12 → A' o = A o) := by
  induction k generalizing j I A s v4 v3 with
  | zero =>
    have e : j = 8 := by omega
    subst e
    exact ⟨I, A, s, v4, v3, hs, fun post k72 q => ⟨fun _ => q, fun hx => absurd (by decide) hx⟩, fun post k92 q => ⟨fun _ => q, fun hx => absurd (by decide) hx⟩, hM, hS, h1, fun _ _ => rfl, fun _ _ _ => rfl⟩
  | succ k ih =>
    have hj8 : j < 8 := by omega
    obtain ⟨I1, A1, up, b, hb, g1, g2, m1, u1, n1, n2, f1, f2, f3⟩ := y_up (J := J) (B := B) hj8 hc (hM j hj8)
    have M1 : MI I1 A1 := fun q hq => by
      by_cases e : q = j
      · subst e
        exact m1
      · exact rMob_of (hM q hq) (f1 _ (by omega)) (f1 _ (by omega)) (f1 _ (by omega)) (fun o _ _ _ _ _ _ => f3 o q e) (fun k _ => by rw [f2 18 (by decide) (by decide)])
    have S1 : Sn c (j + 1) I1 A1 := fun q hq => by
      by_cases e : q = j
      · subst e
        rw [f2 3 (by decide) (by decide)]
        exact ⟨n1, n2⟩
      · rw [f2 3 (by decide) (by decide), f2 7 (by decide) (by decide), f3 12 q e, f1 (22 + q) (by omega)]
        exact hS q (by omega)
    have eT1 : A1 0 36 = T := by rw [f2 0 (by decide) (by decide)]; exact eT
    rw [eT] at g1
    obtain ⟨I2, A2, s', v4', v3', l1, g3, g4, M2, S2, u2, f4, f5⟩ := ih (j + 1) (by omega) I1 A1 eT1 (if up then s + 1 else s) (if up then nI b else v4) (if up then nI j else v3) M1 S1 (by split <;> omega) (by
      intro e
      by_cases hu : up = true
      · rw [if_pos hu, if_pos hu]
        exact ⟨j, b, hj8, hb, rfl, rfl, u1 hu⟩
      · rw [if_neg hu] at e
        rw [if_neg hu, if_neg hu]
        obtain ⟨m, b, p1, p2, p3, p4, p5⟩ := h1 e
        exact ⟨m, b, p1, p2, p3, p4, fun A' B' a0 a4 a7 a8 a9 => p5 A' B' (by rw [a0, f2 0 (by decide) (by decide)]) (by rw [a4, f2 4 (by decide) (by decide)]) (by rw [a7, f2 7 (by decide) (by decide)]) (by rw [a8, f2 8 (by decide) (by decide)]) (by rw [a9, f2 9 (by decide) (by decide)])⟩)
    refine ⟨I2, A2, s', v4', v3', l1, fun post k72 q => ⟨fun hx => absurd hx (nI_ge (b := 8) (by omega) (by decide)), fun _ => ⟨j, rfl, hj8, g1 post _ s v4 (g3 post k72 q)⟩⟩, fun post k92 q => ⟨fun hx => absurd hx (nI_ge (b := 8) (by omega) (by decide)), fun _ => g2 post _ s v3 (g4 post k92 q)⟩, M2, S2, u2, fun o ho => (f4 o ho).trans (f1 o (by omega)), fun o h1 h2 => (f5 o h1 h2).trans (f2 o h1 h2)⟩
