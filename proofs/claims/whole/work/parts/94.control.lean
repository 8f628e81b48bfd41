/-! a cell's control slot, from its end to its beginning -/
theorem y_85 {c : Nat} (hc : c < 3) {I : SI} {J : SJ} {A : SI} {B : SJ} (p1 : Int32) (h : jInv I J A B) (hS : Sn c 8 I A) :
    ∃ I' J' A' B', (∀ (post : SI → SJ → Prop) (k2 : Int32 → SI → SJ → Prop), k2 (nI (c + 1)) I' J' → p_TC_runControl_85 p1 post k2 (nI c) I J) ∧ (∀ post : SI → SJ → Prop, post A' B' → p_Md_controlSlot_161 (nI c) post A B) ∧ jInv I' J' A' B' ∧ sT A A' := by
  have e1 : nI c + 1 = nI (c + 1) := nI_1 c
  -- the last loop
  have last : ∀ (I1 : SI) (J1 : SJ) (A1 : SI) (B1 : SJ), jInv I1 J1 A1 B1 → Sn c 8 I1 A1 → ∃ I' A', (∀ (post : SI → SJ → Prop) (k2 : Int32 → SI → SJ → Prop), k2 (nI (c + 1)) I' J1 → p_TC_runControl_112 p1 post k2 (nI c) I1 J1) ∧ (∀ post : SI → SJ → Prop, post A' B1 → p_Md_controlSlot_294 (nI c) post A1 B1) ∧ jInv I' J1 A' B1 ∧ sT A1 A' := by
    intro I1 J1 A1 B1 i1 s1
    obtain ⟨I2, A2, g1, g2, i2, t2⟩ := y_set1 hc 8 0 (by omega) I1 A1 i1 (fun m _ hm => s1 m hm)
    refine ⟨I2, A2, fun post k2 q x e => ?_, fun post q x e => ?_, i2, t2⟩
    · subst e
      exact ⟨9, g1 _ (fun y ey => by rw [e1] at ey; subst ey; exact q)⟩
    · subst e
      exact ⟨9, g2 post q⟩
  obtain ⟨M, W, tb, tm⟩ := h
  rcases y_next (J := J) (B := B) hc W with ⟨z, g1⟩ | ⟨b, I1, A1, hb, g1, nz, eb, g2, W1, f1⟩
  · obtain ⟨I2, A2, g3, g4, i2, t2⟩ := last I J A B ⟨M, W, tb, tm⟩ hS
    exact ⟨I2, J, A2, B, fun post k2 q => ⟨c, rfl, hc, g1 _ ⟨fun _ => g3 post k2 q, fun n => absurd rfl n⟩⟩, fun post q => ⟨c, rfl, hc, fun _ => g4 post q, fun n => absurd (by rw [z]; decide) n⟩, i2, t2⟩
  · have S1 : Sn c 8 I1 A1 := fun q hq => by
      rw [f1.1 (22 + q) (by omega), f1.2 3 (by decide), f1.2 12 (by decide), f1.2 7 (by decide)]
      exact hS q hq
    obtain ⟨I2, J2, A2, B2, g3, g4, i2, s2, t2⟩ := y_tell1 hc hb 8 0 (by omega) I1 J A1 B ⟨f1.fS.mi M, W1, f1.fS.tb tb, f1.fS.tm tm⟩ S1
    obtain ⟨I3, A3, g5, g6, i3, t3⟩ := last I2 J2 A2 B2 i2 s2
    have nv : ¬ nI b = (-1 : Int32) := fun e => absurd (by rw [e]; decide) (nI_pos (n := b) (by omega))
    refine ⟨I3, J2, A3, B2, fun post k2 q => ⟨c, rfl, hc, g1 _ ⟨fun e => absurd e nv, fun _ x e => ?_⟩⟩, fun post q => ⟨c, rfl, hc, fun e => absurd e nz, fun _ => ⟨9 * c, pk_mul 9 c, by omega, fun x36 e36 => ⟨c, rfl, hc, c, rfl, hc, fun I39 e39 x40 e40 => ?_⟩⟩⟩, i3, t3.trans (t2.trans f1.fS.sT)⟩
    · subst e
      exact ⟨9, g3 _ (g5 post k2 q)⟩
    · subst e40
      rw [eb] at e36
      subst e36; subst e39
      refine g2 _ _ _ (fun x e => ?_)
      subst e
      exact ⟨9, g4 _ _ (g6 post q)⟩
theorem y_33 {c : Nat} (hc : c < 3) {I : SI} {J : SJ} {A : SI} {B : SJ} (v : Int32) (hv : v = -1 ∨ ∃ b, b < 2 ^ 20 ∧ v = nI b) (h : jInv I J A B) (hS : Sn c 8 I A) :
    ∃ I' J' A' B', (∀ (post : SI → SJ → Prop) (k2 : Int32 → SI → SJ → Prop), k2 (nI (c + 1)) I' J' → p_TC_runControl_33 (A 0 36 / 4) post k2 (nI c) v I J) ∧ (∀ post : SI → SJ → Prop, post A' B' → ((v < (0) → p_Md_controlSlot_161 (nI c) post A B) ∧ (¬ v < (0) → (((xsr v (16 : Int32)) < (1 : Int32) → p_Md_controlSlot_161 (nI c) post A B) ∧ (¬ (xsr v (16 : Int32)) < (1 : Int32) → (((3 : Int32) < (xsr v (16 : Int32)) → p_Md_controlSlot_161 (nI c) post A B) ∧ (¬ (3 : Int32) < (xsr v (16 : Int32)) → p_Md_control (8 : Int32) ((xsr v (13 : Int32)) &&& (7 : Int32)) (0 : Int32) (0 : Int32) (0 : Int32) (fun r74 I72 J73 => p_Md_sayFirst (nI c) r74 (fun I75 J76 => p_Md_switched (nI c) v (fun I77 J78 => p_Md_controlSlot_161 (nI c) post I77 J78) I75 J76) I72 J73) A B))))))) ∧ jInv I' J' A' B' ∧ sT A A' := by
  rcases hv with rfl | ⟨b, hb, rfl⟩
  · obtain ⟨I2, J2, A2, B2, g1, g2, i2, t2⟩ := y_85 hc (A 0 36 / 4) h hS
    exact ⟨I2, J2, A2, B2, fun post k2 q => ⟨fun _ => g1 post k2 q, fun n => absurd rfl n⟩, fun post q => ⟨fun _ => g2 post q, fun n => absurd (by decide) n⟩, i2, t2⟩
  · have nv : ¬ nI b = (-1 : Int32) := fun e => absurd (by rw [e]; decide) (nI_pos (n := b) (by omega))
    have pv : ¬ nI b < 0 := nI_pos (by omega)
    have hk : b / 65536 < 16 := by omega
    have cls : ∀ (post : SI → SJ → Prop) (k2 : Int32 → SI → SJ → Prop), ((nI (b / 65536) < (1 : Int32) → p_TC_runControl_85 (A 0 36 / 4) post k2 (nI c) I J) ∧ (¬ nI (b / 65536) < (1 : Int32) → (((3 : Int32) < nI (b / 65536) → p_TC_runControl_85 (A 0 36 / 4) post k2 (nI c) I J) ∧ (¬ (3 : Int32) < nI (b / 65536) → p_Bk_of (8 : Int32) (nI (b / 8192 % 8)) (0 : Int32) (0 : Int32) (0 : Int32) (fun r30 I28 J29 => p_Ce_sayFirst c r30 (fun I31 J32 => p_Sw_accept (nI b) (nI c) (A 0 36 / 4) (fun I33 J34 => p_TC_runControl_85 (A 0 36 / 4) post k2 (nI c) I33 J34) I31 J32) I28 J29) I J)))) → p_TC_runControl_33 (A 0 36 / 4) post k2 (nI c) (nI b) I J := by
      intro post k2 q
      refine ⟨fun e => absurd e nv, fun _ => ?_⟩
      unfold p_Bk_isFromMobile p_Bk_isFromMobile_20 p_Bk_kindOf p_Bk_mobileOf
      rw [fu_16 hb, fu_13 hb]
      exact ⟨fun e => ⟨fun _ => q.1 e, fun n => absurd rfl n⟩, fun n => ⟨fun e => ⟨fun _ => (q.2 n).1 e, fun n2 => absurd rfl n2⟩, fun n2 => ⟨fun e => absurd e (by decide), fun _ => ⟨c, rfl, hc, (q.2 n).2 n2⟩⟩⟩⟩
    rw [fs_16 hb, fs_13 hb]
    have hw : b / 8192 % 8 < 8 := Nat.mod_lt _ (by decide)
    by_cases k0 : b / 65536 < 1 ∨ 3 < b / 65536
    · obtain ⟨I2, J2, A2, B2, g1, g2, i2, t2⟩ := y_85 hc (A 0 36 / 4) h hS
      refine ⟨I2, J2, A2, B2, fun post k2 q => cls post k2 ⟨fun _ => g1 post k2 q, fun n => ⟨fun _ => g1 post k2 q, fun n2 => ?_⟩⟩, fun post q => ⟨fun e => absurd e pv, fun _ => ⟨fun _ => g2 post q, fun n => ⟨fun _ => g2 post q, fun n2 => ?_⟩⟩⟩, i2, t2⟩
      · rcases k0 with k0 | k0
        · exact absurd (nI_lt (b := 1) k0 (by decide)) n
        · exact absurd (nI_lt (a := 3) k0 (by omega)) n2
      · rcases k0 with k0 | k0
        · exact absurd (nI_lt (b := 1) k0 (by decide)) n
        · exact absurd (nI_lt (a := 3) k0 (by omega)) n2
    · have n1 : ¬ nI (b / 65536) < (1 : Int32) := nI_nlt (b := 1) (by omega) (by omega)
      have n3 : ¬ (3 : Int32) < nI (b / 65536) := nI_nlt (a := 3) (by omega) (by decide)
      obtain ⟨M, W, tb, tm⟩ := h
      obtain ⟨I1, A1, g1, g2, W1, f1⟩ := y_first (J := J) (B := B) hc (b := blk 8 (b / 8192 % 8) (4 * 0 + 0) 0) (blk_lt (by omega) hw (by omega) (by omega)) W
      obtain ⟨I2, A2, g3, g4, W2, f2⟩ := y_acc (J := J) (B := B) hb hc W1
      rw [f1.2 0 (by decide)] at g3
      have F := f1.fS.trans f2
      have S2 : Sn c 8 I2 A2 := fun q hq => by
        rw [F.1 (22 + q) (by omega) (by omega), F.2 3 (by decide), F.2 12 (by decide), F.2 7 (by decide)]
        exact hS q hq
      obtain ⟨I3, J3, A3, B3, g5, g6, i3, t3⟩ := y_85 hc (A 0 36 / 4) (J := J) (B := B) ⟨F.mi M, W2, F.tb tb, F.tm tm⟩ S2
      exact ⟨I3, J3, A3, B3, fun post k2 q => cls post k2 ⟨fun e => absurd e n1, fun _ => ⟨fun e => absurd e n3, fun _ => s_Bk_of (k := 8) (g := 0) (l := 0) (r := 0) (by omega) hw (by omega) (by omega) (by omega) (by decide) (g1 _ (g3 _ (g5 post k2 q)))⟩⟩, fun post q => ⟨fun e => absurd e pv, fun _ => ⟨fun e => absurd e n1, fun _ => ⟨fun e => absurd e n3, fun _ => s_Md_control (k := 8) (g := 0) (l := 0) (r := 0) (by omega) hw (by omega) (by omega) (by omega) (g2 _ (g4 _ (g6 post q)))⟩⟩⟩, i3, t3.trans F.sT⟩
theorem y_ctl {c : Nat} (hc : c < 3) {I : SI} {J : SJ} {A : SI} {B : SJ} (h : jInv I J A B) :
    ∃ I' J' A' B', (∀ (post : SI → SJ → Prop) (k2 : Int32 → SI → SJ → Prop), k2 (nI (c + 1)) I' J' → p_TC_sendMessages (nI c) (A 0 36 / 4) (fun r4 I2 J3 => ((¬ r4 = (-1 : Int32) → p_TC_colourOf (nI c) (fun r7 I5 J6 => p_TC_receive (nI c) r4 r7 (fun r10 I8 J9 => p_TC_runControl_33 (A 0 36 / 4) post k2 (nI c) r10 I8 J9) I5 J6) I2 J3) ∧ (r4 = (-1 : Int32) → p_TC_runControl_33 (A 0 36 / 4) post k2 (nI c) (-1 : Int32) I2 J3))) I J) ∧ go (p_Md_controlSlot (nI c)) A B A' B' ∧ jInv I' J' A' B' ∧ sT A A' := by
  obtain ⟨M, W, tb, tm⟩ := h
  obtain ⟨I1, A1, s, v4, v3, s8, g1, g2, M1, S1, u1, f1, f2⟩ := y_sendl (J := J) (B := B) hc 8 0 (by omega) I A rfl 0 (-1) 0 M (fun m hm => by omega) (by omega) (fun e => by omega)
  have a0 : A1 0 = A 0 := f2 0 (by decide) (by decide)
  have W1 : SW I1 A1 := by
    have i : ∀ o, (o < 14 ∨ 38 ≤ o) → I1 o = I o := fun o ho => f1 o (by omega)
    refine ⟨fun q hq => rPl_of (W.1 q hq) (by rw [i 7 (by decide)]) (by rw [i 8 (by decide)]) (by rw [i 9 (by decide)]) (by rw [f2 5 (by decide) (by decide)]) (by rw [f2 6 (by decide) (by decide)]) (by rw [f2 24 (by decide) (by decide)]), fun g hg => rGrp_of (W.2.1 g hg) (i _ (by omega)) (i _ (by omega)) (fun o _ _ _ => by rw [f2 o (by omega) (by omega)]) (fun k _ => by rw [f2 30 (by decide) (by decide)]), fun c hc => rSy_of (W.2.2 c hc) (i _ (by omega)) (i _ (by omega)) (by rw [f2 33 (by decide) (by decide)]) (fun k _ => by rw [f2 32 (by decide) (by decide)])⟩
  have tb1 : TB I1 J B := ⟨hSum_of tb.1 (f1 3 (by decide)), tb.2⟩
  have tm1 : rTm I1 A1 := by
    unfold rTm
    rw [f1 0 (by decide), a0]
    exact tm
  have mdl : ∀ post : SI → SJ → Prop, ((¬ nI s = (1 : Int32) → p_Md_controlSlot_161 (nI c) post A1 B) ∧ (nI s = (1 : Int32) → p_Md_message v3 (fun r68 I66 J67 => p_Md_gets (nI c) r68 (nI c) (fun r71 I69 J70 => ((r71 < (0) → p_Md_controlSlot_161 (nI c) post I69 J70) ∧ (¬ r71 < (0) → (((xsr r71 (16 : Int32)) < (1 : Int32) → p_Md_controlSlot_161 (nI c) post I69 J70) ∧ (¬ (xsr r71 (16 : Int32)) < (1 : Int32) → (((3 : Int32) < (xsr r71 (16 : Int32)) → p_Md_controlSlot_161 (nI c) post I69 J70) ∧ (¬ (3 : Int32) < (xsr r71 (16 : Int32)) → p_Md_control (8 : Int32) ((xsr r71 (13 : Int32)) &&& (7 : Int32)) (0 : Int32) (0 : Int32) (0 : Int32) (fun r74 I72 J73 => p_Md_sayFirst (nI c) r74 (fun I75 J76 => p_Md_switched (nI c) r71 (fun I77 J78 => p_Md_controlSlot_161 (nI c) post I77 J78) I75 J76) I72 J73) I69 J70))))))) I66 J67) A1 B)) → p_Md_controlSlot (nI c) post A B := by
    intro post q x1 e1 x2 e2 x3 e3
    subst e1; subst e2; subst e3
    exact ⟨9, g2 post _ q⟩
  by_cases e : s = 1
  · obtain ⟨m, b, hm, hb, e3, e4, gm⟩ := u1 e
    subst e; subst e3; subst e4
    have nv : ¬ nI b = (-1 : Int32) := fun e => absurd (by rw [e]; decide) (nI_pos (n := b) (by omega))
    obtain ⟨v, J2, A2, B2, g3, g4, hv, oa, tb2⟩ := y_get (A := A1) (show c < 11 by omega) hb hc tb1
    have S2 : Sn c 8 I1 A2 := fun q hq => by
      rw [oa.1 3 (by decide) (by decide) (by decide), oa.1 12 (by decide) (by decide) (by decide), oa.1 7 (by decide) (by decide) (by decide)]
      exact S1 q hq
    have t2 : sT A A2 := oa.sT.trans ⟨by rw [a0], by rw [a0]⟩
    obtain ⟨I3, J3, A3, B3, g5, g6, i3, t3⟩ := y_33 hc v hv (J := J2) (B := B2) ⟨oa.mi M1, oa.sw W1, tb2, oa.tm tm1⟩ S2
    rw [t2.1] at g5
    refine ⟨I3, J3, A3, B3, fun post k2 q x1 e1 x2 e2 x3 e3 => ?_, fun post q => mdl post ⟨fun n => absurd rfl n, fun _ => gm A1 B rfl rfl rfl rfl rfl _ (g4 _ (g6 post q))⟩, i3, t3.trans t2⟩
    subst e1; subst e2; subst e3
    refine ⟨9, g1 _ _ ⟨fun n => absurd rfl n, fun _ => ⟨fun _ => ?_, fun e => absurd e nv⟩⟩⟩
    unfold p_TC_colourOf
    rw [nI_1]
    exact g3 _ (g5 post k2 q)
  · have ns : ¬ nI s = (1 : Int32) := fun e2 => e ((nI_eq (b := 1) (by omega) (by decide)).mp e2)
    obtain ⟨I3, J3, A3, B3, g5, g6, i3, t3⟩ := y_85 hc (A 0 36 / 4) (J := J) (B := B) ⟨M1, W1, tb1, tm1⟩ S1
    refine ⟨I3, J3, A3, B3, fun post k2 q x1 e1 x2 e2 x3 e3 => ?_, fun post q => mdl post ⟨fun _ => g6 post q, fun e2 => absurd e2 ns⟩, i3, t3.trans ⟨by rw [a0], by rw [a0]⟩⟩
    subst e1; subst e2; subst e3
    exact ⟨9, g1 _ _ ⟨fun _ => ⟨fun n => absurd rfl n, fun _ => ⟨fun _ => g5 post k2 q, fun n => absurd rfl n⟩⟩, fun e2 => absurd e2 ns⟩⟩
