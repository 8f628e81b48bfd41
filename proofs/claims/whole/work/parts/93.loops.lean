/-! a control slot -/
/-- time and what was thrown stay -/
def sT (A A' : SI) : Prop := A' 0 36 = A 0 36 ∧ A' 0 0 = A 0 0
theorem sT.refl (A : SI) : sT A A := ⟨rfl, rfl⟩
theorem sT.trans {A A1 A2 : SI} (k : sT A1 A2) (h : sT A A1) : sT A A2 := ⟨k.1.trans h.1, k.2.trans h.2⟩
theorem oM.sT {m : Nat} {I I' A A' : SI} (h : oM m I I' A A') : sT A A' := ⟨h.2.2.2.2 36 (by decide), h.2.2.2.2 0 (by decide)⟩
theorem oA.sT {A A' : SI} (h : oA A A') : sT A A' := ⟨h.2 36 (by decide), h.2 0 (by decide)⟩
theorem fS.sT {I I' A A' : SI} (h : fS I I' A A') : sT A A' := ⟨by rw [h.2 0 (by decide)], by rw [h.2 0 (by decide)]⟩
theorem oA.sw {A A' : SI} (h : oA A A') {I : SI} (k : SW I A) : SW I A' := (h.oM 0 I).sw (by decide) k
theorem oA.tm {A A' : SI} (h : oA A A') {I : SI} (k : rTm I A) : rTm I A' := (h.oM 0 I).tm k
theorem y_get {I : SI} {J : SJ} {A : SI} {B : SJ} {j b c : Nat} (hj : j < 11) (hb : b < 2 ^ 20) (hc : c < 3) (h : TB I J B) :
    ∃ (v : Int32) (J1 : SJ) (A1 : SI) (B1 : SJ), gi (p_TC_receive (nI j) (nI b) (nI (c + 1))) I J v I J1 ∧ gi (p_Md_gets (nI j) (nI b) (nI c)) A B v A1 B1 ∧ (v = -1 ∨ ∃ b', b' < 2 ^ 20 ∧ v = nI b') ∧ oA A A1 ∧ TB I J1 B1 := by
  obtain ⟨hs, hk, hf⟩ := h
  obtain ⟨F, hF, f1, f2⟩ := hf j hj
  obtain ⟨J1, g1, a1, a2, a3⟩ := x_receive hs hk hj hb (show c + 1 < 8 by omega) hF f1
  obtain ⟨A1, B1, g2, b1, b2, b3, b4⟩ := x_gets (I := A) (J := B) hj hb (show c < 7 by omega) hF f2
  refine ⟨rcN b F, J1, A1, B1, g1, g2, rc_lt b F, ⟨b1, b2⟩, hs, hCol_of hk (a1 2 (by decide) (by decide) (by decide)), fun q hq => ?_⟩
  by_cases e : q = j
  · subst e
    exact ⟨0, by decide, a3, b4⟩
  · rw [a2 q e, b3 q e]
    exact hf q hq
def snA (c m : Nat) (I A : SI) : Prop := (A 3 m = nI c → (I (22 + m) 3 = 0 ↔ A 12 m = 0 ∨ A 7 m = 0)) ∧ (¬ A 3 m = nI c → A 12 m = 0)
theorem snA_of {c m : Nat} {I I' A A' : SI} (h : snA c m I A) (i : I' (22 + m) 3 = I (22 + m) 3) (a3 : A' 3 m = A 3 m) (a12 : A' 12 m = A 12 m) (a7 : A' 7 m = A 7 m) : snA c m I' A' := by
  unfold snA
  rw [i, a3, a12, a7]
  exact h
theorem y_tell1 {c b : Nat} (hc : c < 3) (hb : b < 2 ^ 20) (k j : Nat) (hj : j + k = 8) (I : SI) (J : SJ) (A : SI) (B : SJ) (h : jInv I J A B) (hS : Sn c 8 I A) :
    ∃ I' J' A' B', (∀ post : SI → SJ → Prop, post I' J' → p_TC_tellMobiles_L2 (nI c) (nI b) post (k + 1) (nI j) I J) ∧ (∀ (post : SI → SJ → Prop) (k294 : SI → SJ → Prop), k294 A' B' → p_Md_controlSlot_L244 (nI c) post k294 (k + 1) (nI b) (nI j) A B) ∧ jInv I' J' A' B' ∧ Sn c 8 I' A' ∧ sT A A' := by
  induction k generalizing j I J A B with
  | zero =>
    have e : j = 8 := by omega
    subst e
    exact ⟨I, J, A, B, fun post q => ⟨fun _ => q, fun hx => absurd (by decide) hx⟩, fun post k294 q => ⟨fun _ => q, fun hx => absurd (by decide) hx⟩, h, hS, sT.refl A⟩
  | succ k ih =>
    have hj8 : j < 8 := by omega
    have e1 : nI j + 1 = nI (j + 1) := nI_1 j
    obtain ⟨M, W, tb, tm⟩ := h
    have mob := M j hj8
    have cel : I (14 + j) 6 = A 3 j := mob.2.2.1.1
    by_cases ic : A 3 j = nI c
    · have ic' : I (14 + j) 6 = nI c := cel.trans ic
      obtain ⟨v, J1, A1, B1, g1, g2, hv, oa, tb1⟩ := y_get (A := A) (show 3 + j < 11 by omega) hb hc tb
      have e3 : (3 : Int32) + nI j = nI (3 + j) := nI_add 3 j
      have ecol : nI c + 1 = nI (c + 1) := nI_1 c
      have M1 := oa.mi M
      have W1 := oa.sw W
      have a1 : ∀ o, o ≠ 0 → o ≠ 1 → o ≠ 2 → A1 o = A o := oa.1
      have S1 : Sn c 8 I A1 := fun q hq => by
        rw [a1 3 (by decide) (by decide) (by decide), a1 12 (by decide) (by decide) (by decide), a1 7 (by decide) (by decide) (by decide)]
        exact hS q hq
      have t1 : sT A A1 := oa.sT
      have cls : ∀ post : SI → SJ → Prop, ((v = (-1 : Int32) → p_TC_tellMobiles_65 (nI c) (nI b) post (p_TC_tellMobiles_L2 (nI c) (nI b) post (k + 1)) (nI j) I J1) ∧ (¬ v = (-1 : Int32) → p_Bk_groupOf v (fun r13 I11 J12 => p_Sw_isMember (nI j) r13 (fun r16 I14 J15 => p_Mo_obey j v r16 (fun I17 J18 => p_TC_tellMobiles_65 (nI c) (nI b) post (p_TC_tellMobiles_L2 (nI c) (nI b) post (k + 1)) (nI j) I17 J18) I14 J15) I11 J12) I J1)) → p_TC_tellMobiles_L2 (nI c) (nI b) post (k + 1 + 1) (nI j) I J := by
        intro post q
        refine ⟨fun hx => absurd hx (nI_ge (b := 8) (by omega) (by decide)), fun _ => ⟨j, rfl, hj8, fun n => absurd ic' n, fun _ => ?_⟩⟩
        unfold p_TC_colourOf
        rw [e3, ecol]
        exact g1 _ ⟨q.1, fun n => ⟨j, rfl, hj8, q.2 n⟩⟩
      have mdl : ∀ (post : SI → SJ → Prop) (k294 : SI → SJ → Prop), ((v < (0) → p_Md_controlSlot_288 (nI c) post (p_Md_controlSlot_L244 (nI c) post k294 (k + 1)) (nI b) (nI j) A1 B1) ∧ (¬ v < (0) → p_Md_told (nI j) v (fun I56 J57 => p_Md_controlSlot_288 (nI c) post (p_Md_controlSlot_L244 (nI c) post k294 (k + 1)) (nI b) (nI j) I56 J57) A1 B1)) → p_Md_controlSlot_L244 (nI c) post k294 (k + 1 + 1) (nI b) (nI j) A B := by
        intro post k294 q
        refine ⟨fun hx => absurd hx (nI_ge (b := 8) (by omega) (by decide)), fun _ => ⟨j, rfl, hj8, fun n => absurd ic n, fun _ => ?_⟩⟩
        rw [e3]
        exact g2 _ q
      rcases hv with rfl | ⟨b', hb', rfl⟩
      · obtain ⟨I2, J2, A2, B2, g3, g4, i2, s2, t2⟩ := ih (j + 1) (by omega) I J1 A1 B1 ⟨M1, W1, tb1, oa.tm tm⟩ S1
        refine ⟨I2, J2, A2, B2, fun post q => cls post ⟨fun _ x e => ?_, fun n => absurd rfl n⟩, fun post k294 q => mdl post k294 ⟨fun _ x e => ?_, fun n => absurd (by decide) n⟩, i2, s2, t2.trans t1⟩
        · rw [e1] at e
          subst e
          exact g3 post q
        · rw [e1] at e
          subst e
          exact g4 post k294 q
      · have nv : ¬ nI b' = (-1 : Int32) := fun e => absurd (by rw [e]; decide) (nI_pos (n := b') (by omega))
        have pv : ¬ nI b' < 0 := nI_pos (by omega)
        have hg : b' / 2048 % 4 < 4 := Nat.mod_lt _ (by decide)
        have sj := S1 j hj8
        have ic1 : A1 3 j = nI c := by rw [a1 3 (by decide) (by decide) (by decide)]; exact ic
        have fin : ∀ r16 : Int32, (r16 = 0 ↔ ¬ Mb A1 (b' / 2048 % 4) j) → (∀ post : SI → SJ → Prop, p_Mo_obey j (nI b') r16 post I J1 → p_Bk_groupOf (nI b') (fun r13 I11 J12 => p_Sw_isMember (nI j) r13 (fun r16 I14 J15 => p_Mo_obey j (nI b') r16 post I14 J15) I11 J12) I J1) →
            ∃ I' J' A' B', (∀ post : SI → SJ → Prop, post I' J' → p_TC_tellMobiles_L2 (nI c) (nI b) post (k + 1 + 1) (nI j) I J) ∧ (∀ (post : SI → SJ → Prop) (k294 : SI → SJ → Prop), k294 A' B' → p_Md_controlSlot_L244 (nI c) post k294 (k + 1 + 1) (nI b) (nI j) A B) ∧ jInv I' J' A' B' ∧ Sn c 8 I' A' ∧ sT A A' := by
          intro r16 hr hcl
          obtain ⟨I2, A2, g3, g4, m2, om, a3, a12, sn2⟩ := y_told (J := J1) (B := B1) hj8 hb' hc (M1 j hj8) ic1 (sj.1 ic1) r16 hr
          have S2 : Sn c 8 I2 A2 := fun q hq => by
            by_cases e : q = j
            · subst e
              exact ⟨fun _ => sn2, fun n => absurd (by rw [a3]; exact ic1) n⟩
            · rw [a3, a12, om.2.1 7 q (by decide) (by decide) (by decide) (by decide) e, om.1 (22 + q) (by omega) (by omega) (by omega)]
              exact S1 q hq
          obtain ⟨I3, J3, A3, B3, g5, g6, i3, s3, t3⟩ := ih (j + 1) (by omega) I2 J1 A2 B1 ⟨om.mi hj8 M1 m2, om.sw hj8 W1, om.tb tb1, om.tm (oa.tm tm)⟩ S2
          refine ⟨I3, J3, A3, B3, fun post q => cls post ⟨fun e => absurd e nv, fun _ => hcl _ (g3 _ (fun x e => ?_))⟩, fun post k294 q => mdl post k294 ⟨fun e => absurd e pv, fun _ => g4 _ (fun x e => ?_)⟩, i3, s3, t3.trans (om.sT.trans t1)⟩
          · rw [e1] at e
            subst e
            exact g5 post q
          · rw [e1] at e
            subst e
            exact g6 post k294 q
        have pl := W1.1 j hj8
        by_cases mb : Mb A1 (b' / 2048 % 4) j
        · refine fin 1 ⟨fun e => absurd e (by decide), fun n => absurd mb n⟩ (fun post q => ?_)
          unfold p_Bk_groupOf
          rw [fu_11 hb']
          exact s_Sw_isMember hj8 pl hg (fun _ => q) (fun n => absurd mb n)
        · refine fin 0 ⟨fun _ => mb, fun _ => rfl⟩ (fun post q => ?_)
          unfold p_Bk_groupOf
          rw [fu_11 hb']
          exact s_Sw_isMember hj8 pl hg (fun e => absurd e mb) (fun _ => q)
    · obtain ⟨I2, J2, A2, B2, g3, g4, i2, s2, t2⟩ := ih (j + 1) (by omega) I J A B ⟨M, W, tb, tm⟩ hS
      refine ⟨I2, J2, A2, B2, fun post q => ⟨fun hx => absurd hx (nI_ge (b := 8) (by omega) (by decide)), fun _ => ⟨j, rfl, hj8, fun _ x e => ?_, fun e => absurd (cel.symm.trans e) ic⟩⟩, fun post k294 q => ⟨fun hx => absurd hx (nI_ge (b := 8) (by omega) (by decide)), fun _ => ⟨j, rfl, hj8, fun _ x e => ?_, fun e => absurd e ic⟩⟩, i2, s2, t2⟩
      · rw [e1] at e
        subst e
        exact g3 post q
      · rw [e1] at e
        subst e
        exact g4 post k294 q
theorem y_set1 {J : SJ} {B : SJ} {c : Nat} (hc : c < 3) (k j : Nat) (hj : j + k = 8) (I A : SI) (h : jInv I J A B) (hS : ∀ m, j ≤ m → m < 8 → snA c m I A) :
    ∃ I' A', (∀ post : SI → SJ → Prop, post I' J → p_TC_settleMessages_L2 (nI c) post (k + 1) (nI j) I J) ∧ (∀ post : SI → SJ → Prop, post A' B → p_Md_controlSlot_L297 (nI c) post (k + 1) (nI j) A B) ∧ jInv I' J A' B ∧ sT A A' := by
  induction k generalizing j I A with
  | zero =>
    have e : j = 8 := by omega
    subst e
    exact ⟨I, A, fun post q => ⟨fun _ => q, fun hx => absurd (by decide) hx⟩, fun post q => ⟨fun _ => q, fun hx => absurd (by decide) hx⟩, h, sT.refl A⟩
  | succ k ih =>
    have hj8 : j < 8 := by omega
    have e1 : nI j + 1 = nI (j + 1) := nI_1 j
    obtain ⟨M, W, tb, tm⟩ := h
    have mob := M j hj8
    have cel : I (14 + j) 6 = A 3 j := mob.2.2.1.1
    have sj := hS j (Nat.le_refl _) hj8
    obtain ⟨kk, _, _, k4, _, _, e7, _, _⟩ := mob.2.2.2.2.2.2.2.2.2
    have le0 : A 7 j ≤ 0 ↔ A 7 j = 0 := by
      rw [e7]
      constructor
      · intro hx
        have z : kk = 0 := Classical.byContradiction (fun z => nI_nle (n := kk) (by omega) (by omega) hx)
        rw [z]
        rfl
      · intro hx
        rw [hx]
        decide
    have skip : ((I (14 + j) 6 = nI c → I (22 + j) 3 = 0)) → (A 12 j = 0 ∨ A 7 j = 0) → ∃ I' A', (∀ post : SI → SJ → Prop, post I' J → p_TC_settleMessages_L2 (nI c) post (k + 1 + 1) (nI j) I J) ∧ (∀ post : SI → SJ → Prop, post A' B → p_Md_controlSlot_L297 (nI c) post (k + 1 + 1) (nI j) A B) ∧ jInv I' J A' B ∧ sT A A' := by
      intro s1 s2
      obtain ⟨I2, A2, g3, g4, i2, t2⟩ := ih (j + 1) (by omega) I A ⟨M, W, tb, tm⟩ (fun m h1 h2 => hS m (by omega) h2)
      have c2 : ∀ post : SI → SJ → Prop, post I2 J → p_TC_settleMessages_30 (nI c) post (p_TC_settleMessages_L2 (nI c) post (k + 1)) (nI j) I J := fun post q x e => by
        rw [e1] at e
        subst e
        exact g3 post q
      have m2 : ∀ post : SI → SJ → Prop, post A2 B → p_Md_controlSlot_330 (nI c) post (p_Md_controlSlot_L297 (nI c) post (k + 1)) (nI j) A B := fun post q x e => by
        rw [e1] at e
        subst e
        exact g4 post q
      refine ⟨I2, A2, fun post q => ⟨fun hx => absurd hx (nI_ge (b := 8) (by omega) (by decide)), fun _ => ⟨j, rfl, hj8, fun _ => c2 post q, fun e => ⟨j, rfl, hj8, fun n => absurd (s1 e) n, fun _ => c2 post q⟩⟩⟩, fun post q => ⟨fun hx => absurd hx (nI_ge (b := 8) (by omega) (by decide)), fun _ => ⟨j, rfl, hj8, fun _ => m2 post q, fun n => ⟨j, rfl, hj8, fun _ => m2 post q, fun n2 => absurd (le0.mpr (s2.resolve_left n)) n2⟩⟩⟩, i2, t2⟩
    by_cases ic : A 3 j = nI c
    · have ic' : I (14 + j) 6 = nI c := cel.trans ic
      by_cases s : I (22 + j) 3 = 0
      · exact skip (fun _ => s) ((sj.1 ic).mp s)
      · have n12 : ¬ A 12 j = 0 := fun e => s ((sj.1 ic).mpr (Or.inl e))
        have n7 : ¬ A 7 j = 0 := fun e => s ((sj.1 ic).mpr (Or.inr e))
        obtain ⟨I1, A1, g1, g2, m1, om, a3, a12⟩ := y_again (J := J) (B := B) hj8 mob s n7
        obtain ⟨I2, A2, g3, g4, i2, t2⟩ := ih (j + 1) (by omega) I1 A1 ⟨om.mi hj8 M m1, om.sw hj8 W, om.tb tb, om.tm tm⟩ (fun m h1 h2 => snA_of (hS m (by omega) h2) (by rw [om.1 (22 + m) (by omega) (by omega) (by omega)]) (by rw [a3]) (by rw [a12]) (om.2.1 7 m (by decide) (by decide) (by decide) (by decide) (by omega)))
        refine ⟨I2, A2, fun post q => ⟨fun hx => absurd hx (nI_ge (b := 8) (by omega) (by decide)), fun _ => ⟨j, rfl, hj8, fun n => absurd ic' n, fun _ => ⟨j, rfl, hj8, g1 _ (fun x e => ?_)⟩⟩⟩, fun post q => ⟨fun hx => absurd hx (nI_ge (b := 8) (by omega) (by decide)), fun _ => ⟨j, rfl, hj8, fun e => absurd e n12, fun _ => ⟨j, rfl, hj8, fun e => absurd (le0.mp e) n7, fun _ => g2 _ (fun x e => ?_)⟩⟩⟩, i2, t2.trans om.sT⟩
        · rw [e1] at e
          subst e
          exact g3 post q
        · rw [e1] at e
          subst e
          exact g4 post q
    · exact skip (fun e => absurd (cel.symm.trans e) ic) (Or.inl (sj.2 ic))
