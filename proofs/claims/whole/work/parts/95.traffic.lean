/-! a traffic slot -/
theorem s_Mo_isOn {m d ch : Nat} {I : SI} {J : SJ} {A : SI} (h : rDo m I A) (hd : d = 1 ∨ d = 2) {post : Int32 → SI → SJ → Prop} (h1 : A 13 m = nI d → A 14 m = nI ch → post 1 I J) (h0 : ¬ (A 13 m = nI d ∧ A 14 m = nI ch) → post 0 I J) : p_Mo_isOn m (nI ch) (nI d) post I J := by
  have dz : ¬ (0 : Int32) = nI d := by rcases hd with rfl | rfl <;> decide
  rcases h with ⟨z, z8, _, _⟩ | ⟨q, g, hq, hg, e1, e2, e3, e4, e5, _⟩
  · exact ⟨fun _ => h0 (fun e => dz (z.symm.trans e.1)), fun e => absurd (z8.symm.trans e) dz⟩
  · exact ⟨fun n => h0 (fun e => n (e2.trans (e1.symm.trans e.1))), fun e => ⟨fun n => h0 (fun e' => n (e3.trans e'.2)), fun e' => h1 (e1.trans (e2.symm.trans e)) (e3.symm.trans e')⟩⟩
theorem y_talk {I : SI} {J : SJ} {A : SI} {B : SJ} {ch : Nat} (h : MI I A) (k i : Nat) (hi : i + k = 8) :
    ((∀ post : Option Nat → SI → SJ → Prop, post none I J → p_TC_talkerOn_L2 (nI ch) post (k + 1) (nI i) I J) ∧ (∀ (post : SI → SJ → Prop) (k34 : Int32 → SI → SJ → Prop), k34 8 A B → p_Md_trafficSlot_L2 (nI ch) post k34 (k + 1) (nI i) A B)) ∨ ∃ m, m < 8 ∧ A 13 m = 1 ∧ A 14 m = nI ch ∧ (∀ post : Option Nat → SI → SJ → Prop, post (some m) I J → p_TC_talkerOn_L2 (nI ch) post (k + 1) (nI i) I J) ∧ (∀ (post : SI → SJ → Prop) (k34 : Int32 → SI → SJ → Prop), k34 (nI m) A B → p_Md_trafficSlot_L2 (nI ch) post k34 (k + 1) (nI i) A B) := by
  induction k generalizing i with
  | zero =>
    have e : i = 8 := by omega
    subst e
    exact Or.inl ⟨fun post q => ⟨fun _ => q, fun hx => absurd (by decide) hx⟩, fun post k34 q => ⟨fun _ => q, fun hx => absurd (by decide) hx⟩⟩
  | succ k ih =>
    have hi8 : i < 8 := by omega
    have e1 : nI i + 1 = nI (i + 1) := nI_1 i
    have rd := (h i hi8).2.2.2.2.2.2.1
    by_cases a : A 13 i = 1 ∧ A 14 i = nI ch
    · refine Or.inr ⟨i, hi8, a.1, a.2, fun post q => ⟨fun hx => absurd hx (nI_ge (b := 8) (by omega) (by decide)), fun _ => ⟨i, rfl, hi8, s_Mo_isOn (d := 1) rd (Or.inl rfl) (fun _ _ => ⟨fun e => absurd e (by decide), fun _ => ⟨i, rfl, hi8, q⟩⟩) (fun n => absurd a n)⟩⟩, fun post k34 q => ⟨fun hx => absurd hx (nI_ge (b := 8) (by omega) (by decide)), fun _ => ⟨i, rfl, hi8, fun n => absurd a.1 n, fun _ => ⟨i, rfl, hi8, fun _ => q, fun n => absurd a.2 n⟩⟩⟩⟩
    · have cl : ∀ post : Option Nat → SI → SJ → Prop, p_TC_talkerOn_L2 (nI ch) post (k + 1) (nI (i + 1)) I J → p_TC_talkerOn_L2 (nI ch) post (k + 1 + 1) (nI i) I J := fun post q => ⟨fun hx => absurd hx (nI_ge (b := 8) (by omega) (by decide)), fun _ => ⟨i, rfl, hi8, s_Mo_isOn (d := 1) rd (Or.inl rfl) (fun x y => absurd ⟨x, y⟩ a) (fun _ => ⟨fun _ x e => by rw [e1] at e; subst e; exact q, fun n => absurd rfl n⟩)⟩⟩
      have md : ∀ (post : SI → SJ → Prop) (k34 : Int32 → SI → SJ → Prop), p_Md_trafficSlot_L2 (nI ch) post k34 (k + 1) (nI (i + 1)) A B → p_Md_trafficSlot_L2 (nI ch) post k34 (k + 1 + 1) (nI i) A B := fun post k34 q => by
        have st : p_Md_trafficSlot_28 (nI ch) post (p_Md_trafficSlot_L2 (nI ch) post k34 (k + 1)) (nI i) A B := fun x e => by
          rw [e1] at e
          subst e
          exact q
        exact ⟨fun hx => absurd hx (nI_ge (b := 8) (by omega) (by decide)), fun _ => ⟨i, rfl, hi8, fun _ => st, fun x => ⟨i, rfl, hi8, fun y => absurd ⟨x, y⟩ a, fun _ => st⟩⟩⟩
      rcases ih (i + 1) (by omega) with ⟨g1, g2⟩ | ⟨m, hm, p1, p2, g1, g2⟩
      · exact Or.inl ⟨fun post q => cl post (g1 post q), fun post k34 q => md post k34 (g2 post k34 q)⟩
      · exact Or.inr ⟨m, hm, p1, p2, fun post q => cl post (g1 post q), fun post k34 q => md post k34 (g2 post k34 q)⟩
theorem m_on {A : SI} {B : SJ} {ch : Nat} (k i : Nat) (hi : i + k = 4) (no : ∀ q, q < i → ¬ A 27 q = nI ch) :
    ∃ g, (∀ (post : SI → SJ → Prop) (k140 : Int32 → Int32 → SI → SJ → Prop) (v5 : Int32), k140 v5 (nI g) A B → p_Md_trafficSlot_L117 (nI ch) post k140 (k + 1) v5 (nI i) A B) ∧ ((g = 4 ∧ ∀ q, q < 4 → ¬ A 27 q = nI ch) ∨ (g < 4 ∧ A 27 g = nI ch ∧ ∀ q, q < g → ¬ A 27 q = nI ch)) := by
  induction k generalizing i with
  | zero =>
    have e : i = 4 := by omega
    subst e
    exact ⟨4, fun post k140 v5 q => ⟨fun _ => q, fun hx => absurd (by decide) hx⟩, Or.inl ⟨rfl, no⟩⟩
  | succ k ih =>
    by_cases a : A 27 i = nI ch
    · exact ⟨i, fun post k140 v5 q => ⟨fun hx => absurd hx (nI_ge (b := 4) (by omega) (by decide)), fun _ => ⟨i, rfl, by omega, fun _ => q, fun n => absurd a n⟩⟩, Or.inr ⟨by omega, a, no⟩⟩
    · obtain ⟨g, g1, g2⟩ := ih (i + 1) (by omega) (fun q hq e => by
        by_cases eq : q = i
        · subst eq
          exact a e
        · exact no q (by omega) e)
      exact ⟨g, fun post k140 v5 q => ⟨fun hx => absurd hx (nI_ge (b := 4) (by omega) (by decide)), fun _ => ⟨i, rfl, by omega, fun e => absurd e a, fun _ x e => by rw [nI_1] at e; subst e; exact g1 post k140 v5 q⟩⟩, g2⟩
theorem y_on {I : SI} {J : SJ} {A : SI} {B : SJ} {ch : Nat} (h : ∀ g, g < 4 → rCl g I A) (h0 : 0 < ch) (h4 : ch < 4) :
    ∃ (v : Int32) (g : Nat), gi (p_Sw_groupOn (nI ch)) I J v I J ∧ (∀ (post : SI → SJ → Prop) (k140 : Int32 → Int32 → SI → SJ → Prop) (v5 : Int32), k140 v5 (nI g) A B → ∃ n, p_Md_trafficSlot_L117 (nI ch) post k140 n v5 0 A B) ∧ ((v = -1 ∧ g = 4) ∨ (g < 4 ∧ v = nI g ∧ A 27 g = nI ch)) := by
  obtain ⟨v, g1, e1⟩ := s_groupOn (J := J) h h0 h4
  obtain ⟨g, g2, e2⟩ := m_on (A := A) (B := B) (ch := ch) 4 0 (by omega) (fun q hq => by omega)
  refine ⟨v, g, g1, fun post k140 v5 q => ⟨5, g2 post k140 v5 q⟩, ?_⟩
  rcases e1 with ⟨a1, a2⟩ | ⟨q, hq, a1, a2, a3⟩
  · rcases e2 with ⟨b1, b2⟩ | ⟨b1, b2, b3⟩
    · exact Or.inl ⟨a1, b1⟩
    · exact absurd b2 (a2 g b1)
  · rcases e2 with ⟨b1, b2⟩ | ⟨b1, b2, b3⟩
    · exact absurd a2 (b2 q hq)
    · have : g = q := by
        rcases Nat.lt_trichotomy g q with l | l | l
        · exact absurd b2 (a3 g l)
        · exact l
        · exact absurd a2 (b3 q l)
      subst this
      exact Or.inr ⟨b1, a1, b2⟩
def cHear (I : SI) (m : Nat) (v : Int32) : SI := xu (xu I (14 + m) 11 (I (14 + m) 11 + 1)) (14 + m) 12 v
def mHear (A : SI) (m : Nat) (v : Int32) : SI := xu (xu A 20 m (A 20 m + 1)) 21 m v
theorem hear_mob {m : Nat} {I A : SI} (h : rMob m I A) (v : Int32) : rMob m (cHear I m v) (mHear A m v) := by
  obtain ⟨h1, h2, h3, h4, h5, h6, h7, h8, h9, h10⟩ := h
  refine ⟨by simpa [cHear, xu_at] using h1, by simpa [cHear, mHear, xu_at] using h2, rCel_of h3 (by simp [cHear, xu_at]) (by simp [mHear, xu_at]), rSpk_of h4 (by simp [cHear, xu_at]) (by simp [mHear, xu_at]), rDrw_of h5 (by simp [cHear, xu_at]) (by simp [mHear, xu_at]) (by funext k; simp [cHear, xu_at]) (by funext k; simp [mHear, xu_at]), rPrs_of h6 (by simp [cHear, xu_at]) (by simp [mHear, xu_at]), rDo_of h7 (by simp [cHear, xu_at]) (by simp [cHear, xu_at]) (by simp [cHear, xu_at]) (by simp [mHear, xu_at]) (by simp [mHear, xu_at]) (by simp [mHear, xu_at]) (by simp [mHear, xu_at]), ?_, rTry_of h9 (by simp [cHear, xu_at]) (by simp [cHear, xu_at]) (by simp [mHear, xu_at]) (by simp [mHear, xu_at]), rMsg_of h10 (by simp [cHear, xu_at]) (by simp [cHear, xu_at]) (by simp [mHear, xu_at]) (by simp [mHear, xu_at]) (by simp [mHear, xu_at]) (by simp [mHear, xu_at]) (by simp [mHear, xu_at])⟩
  obtain ⟨p1, p2, p3, p4⟩ := h8
  exact ⟨by simp [cHear, mHear, xu_at, p1], by simp [cHear, mHear, xu_at], by simpa [cHear, mHear, xu_at] using p3, by simpa [cHear, mHear, xu_at] using p4⟩
theorem oM.hear (m : Nat) (I A : SI) (v w : Int32) : oM m I (cHear I m v) A (mHear A m w) :=
  oM.mk1 (fun o k h1 h2 h3 => by simp [cHear, xu_at, h1]) (fun o k h => by
    unfold mHear
    rw [xu_at, if_neg (by omega), xu_at, if_neg (by omega)])
theorem y_hear {ch b : Nat} (hb : b < 2 ^ 20) {T : Int32} (k j : Nat) (hj : j + k = 8) (I : SI) (J : SJ) (A : SI) (B : SJ) (eT : A 0 36 = T) (h : jInv I J A B) :
    ∃ I' J' A' B', (∀ post : SI → SJ → Prop, post I' J' → p_TC_sendOn_L3 (nI b) (nI ch) (T / 4) post (k + 1) (nI j) I J) ∧ (∀ post : SI → SJ → Prop, post A' B' → p_Md_trafficSlot_L169 (nI ch) post (k + 1) (nI b) (nI j) A B) ∧ jInv I' J' A' B' ∧ sT A A' := by
  induction k generalizing j I J A B with
  | zero =>
    have e : j = 8 := by omega
    subst e
    exact ⟨I, J, A, B, fun post q => ⟨fun _ => q, fun hx => absurd (by decide) hx⟩, fun post q => ⟨fun _ => q, fun hx => absurd (by decide) hx⟩, h, sT.refl A⟩
  | succ k ih =>
    have hj8 : j < 8 := by omega
    have e1 : nI j + 1 = nI (j + 1) := nI_1 j
    obtain ⟨M, W, tb, tm⟩ := h
    have mob := M j hj8
    have rd := mob.2.2.2.2.2.2.1
    have cel : I (14 + j) 6 = A 3 j := mob.2.2.1.1
    by_cases a : A 13 j = nI 2 ∧ A 14 j = nI ch
    · obtain ⟨g, hg, d4, d5, c, hc, ec⟩ : ∃ g, g < 4 ∧ A 15 j = nI g ∧ I (14 + j) 10 = nI g ∧ ∃ c, c < 3 ∧ A 3 j = nI c := by
        rcases rd with ⟨z, _⟩ | ⟨d, g, hd, hg, d1, d2, d3, d4, d5, c, hc, ec⟩
        · exact absurd (z.symm.trans a.1) (by decide)
        · exact ⟨g, hg, d4, d5, c, hc, ec⟩
      obtain ⟨v, J1, A1, B1, g1, g2, hv, oa, tb1⟩ := y_get (A := A) (show 3 + j < 11 by omega) hb hc tb
      have e3 : (3 : Int32) + nI j = nI (3 + j) := nI_add 3 j
      have ecol : nI c + 1 = nI (c + 1) := nI_1 c
      have M1 := oa.mi M
      have W1 := oa.sw W
      have a1 : ∀ o, o ≠ 0 → o ≠ 1 → o ≠ 2 → A1 o = A o := oa.1
      have t1 : A1 0 36 = T := (oa.2 36 (by decide)).trans eT
      have key : I (38 + g) 2 = A1 26 g := (W1.2.1 g hg).1
      have cls : ∀ post : SI → SJ → Prop, ((v = (-1 : Int32) → p_TC_sendOn_L3 (nI b) (nI ch) (T / 4) post (k + 1) (nI (j + 1)) I J1) ∧ (¬ v = (-1 : Int32) → p_TC_sendOn_L3 (nI b) (nI ch) (T / 4) post (k + 1) (nI (j + 1)) (cHear I j ((v ^^^ mxF (A1 26 g) (T / 4)) &&& (524287 : Int32))) J1)) → p_TC_sendOn_L3 (nI b) (nI ch) (T / 4) post (k + 1 + 1) (nI j) I J := by
        intro post q
        refine ⟨fun hx => absurd hx (nI_ge (b := 8) (by omega) (by decide)), fun _ => ⟨j, rfl, hj8, s_Mo_isOn (d := 2) rd (Or.inr rfl) (fun _ _ => ⟨fun e => absurd e (by decide), fun _ => ?_⟩) (fun n => absurd a n)⟩⟩
        unfold p_TC_colourOf
        rw [cel, ec, e3, ecol]
        refine g1 _ ⟨fun e x ex => ?_, fun n => ⟨g, d5, hg, z_TC_mix (fun I2 e2 I3 e3' x ex => ?_)⟩⟩
        · rw [e1] at ex
          subst ex
          exact q.1 e
        · rw [e1] at ex
          subst ex; subst e2
          rw [key] at e3'
          subst e3'
          exact q.2 n
      have mdl : ∀ post : SI → SJ → Prop, ((v < 0 → p_Md_trafficSlot_L169 (nI ch) post (k + 1) (nI b) (nI (j + 1)) A1 B1) ∧ (¬ v < 0 → p_Md_trafficSlot_L169 (nI ch) post (k + 1) (nI b) (nI (j + 1)) (mHear A1 j ((v ^^^ mxF (A1 26 g) (T / 4)) &&& (524287 : Int32))) B1)) → p_Md_trafficSlot_L169 (nI ch) post (k + 1 + 1) (nI b) (nI j) A B := by
        intro post q
        refine ⟨fun hx => absurd hx (nI_ge (b := 8) (by omega) (by decide)), fun _ => ⟨j, rfl, hj8, fun n => absurd a.1 n, fun _ => ⟨j, rfl, hj8, fun n => absurd a.2 n, fun _ => ⟨j, rfl, hj8, ?_⟩⟩⟩⟩
        rw [ec, e3]
        refine g2 _ ⟨fun e x ex => ?_, fun n => ⟨j, rfl, hj8, j, rfl, hj8, fun I44 e44 => ⟨j, rfl, hj8, g, ?_, hg, z_Md_mix ⟨j, rfl, hj8, fun I51 e51 x ex => ?_⟩⟩⟩⟩
        · rw [e1] at ex
          subst ex
          exact q.1 e
        · rw [e44, xu_o _ _ _ (by decide), a1 15 (by decide) (by decide) (by decide)]
          exact d4
        · rw [e1] at ex
          subst ex; subst e44
          rw [xu_o _ _ _ (show 26 ≠ 20 by decide), xu_o _ _ _ (show 0 ≠ 20 by decide), t1] at e51
          subst e51
          exact q.2 n
      rcases hv with rfl | ⟨b', hb', rfl⟩
      · obtain ⟨I2, J2, A2, B2, g3, g4, i2, t2⟩ := ih (j + 1) (by omega) I J1 A1 B1 t1 ⟨M1, W1, tb1, oa.tm tm⟩
        exact ⟨I2, J2, A2, B2, fun post q => cls post ⟨fun _ => g3 post q, fun n => absurd rfl n⟩, fun post q => mdl post ⟨fun _ => g4 post q, fun n => absurd (by decide) n⟩, i2, t2.trans oa.sT⟩
      · have nv : ¬ nI b' = (-1 : Int32) := fun e => absurd (by rw [e]; decide) (nI_pos (n := b') (by omega))
        have pv : ¬ nI b' < 0 := nI_pos (by omega)
        have om := oM.hear j I A1 ((nI b' ^^^ mxF (A1 26 g) (T / 4)) &&& (524287 : Int32)) ((nI b' ^^^ mxF (A1 26 g) (T / 4)) &&& (524287 : Int32))
        obtain ⟨I2, J2, A2, B2, g3, g4, i2, t2⟩ := ih (j + 1) (by omega) _ J1 _ B1 ((om.2.2.2.2 36 (by decide)).trans t1) ⟨om.mi hj8 M1 (hear_mob (M1 j hj8) _), om.sw hj8 W1, om.tb tb1, om.tm (oa.tm tm)⟩
        exact ⟨I2, J2, A2, B2, fun post q => cls post ⟨fun e => absurd e nv, fun _ => g3 post q⟩, fun post q => mdl post ⟨fun e => absurd e pv, fun _ => g4 post q⟩, i2, t2.trans (om.sT.trans oa.sT)⟩
    · obtain ⟨I2, J2, A2, B2, g3, g4, i2, t2⟩ := ih (j + 1) (by omega) I J A B eT ⟨M, W, tb, tm⟩
      refine ⟨I2, J2, A2, B2, fun post q => ⟨fun hx => absurd hx (nI_ge (b := 8) (by omega) (by decide)), fun _ => ⟨j, rfl, hj8, s_Mo_isOn (d := 2) rd (Or.inr rfl) (fun x y => absurd ⟨x, y⟩ a) (fun _ => ⟨fun _ x e => ?_, fun n => absurd rfl n⟩)⟩⟩, fun post q => ?_, i2, t2⟩
      · rw [e1] at e
        subst e
        exact g3 post q
      · have st : p_Md_trafficSlot_272 (nI ch) post (p_Md_trafficSlot_L169 (nI ch) post (k + 1)) (nI b) (nI j) A B := fun x e => by
          rw [e1] at e
          subst e
          exact g4 post q
        exact ⟨fun hx => absurd hx (nI_ge (b := 8) (by omega) (by decide)), fun _ => ⟨j, rfl, hj8, fun _ => st, fun x => ⟨j, rfl, hj8, fun _ => st, fun y => absurd ⟨x, y⟩ a⟩⟩⟩
theorem bv_xa (a m y : BitVec 32) (h : a &&& m = a) : a ^^^ (y &&& m) = (a ^^^ y) &&& m := by
  apply BitVec.eq_of_getLsbD_eq
  intro i hi
  have e := congrArg (fun v => v.getLsbD i) h
  simp only [BitVec.getLsbD_and, BitVec.getLsbD_xor] at e ⊢
  revert e
  cases a.getLsbD i <;> cases m.getLsbD i <;> cases y.getLsbD i <;> simp
theorem sp_eq (s : Nat) (hs : s < 2 ^ 19) (x : Int32) : (nI s) ^^^ (x &&& (524287 : Int32)) = ((nI s) ^^^ x) &&& (524287 : Int32) := by
  have e : nI s &&& (524287 : Int32) = nI s := by rw [pk_andN (by omega) 19 (by decide), Nat.mod_eq_of_lt hs]
  apply Int32.toBitVec_inj.mp
  have e' := congrArg Int32.toBitVec e
  rw [Int32.toBitVec_and] at e'
  rw [Int32.toBitVec_xor, Int32.toBitVec_and, Int32.toBitVec_and, Int32.toBitVec_xor]
  exact bv_xa _ _ _ e'
theorem hi_bit {b : Nat} (hb : b < 2 ^ 20) : (nI b &&& (524288 : Int32) = 0 ↔ b < 524288) := by
  have key : ∀ q, q < 2 → ((BitVec.ofNat 32 (q * 524288)) &&& (524288#32) = 0#32 ↔ q = 0) := by decide
  have e : (nI b &&& (524288 : Int32)).toBitVec = (BitVec.ofNat 32 (b / 524288 * 524288)) &&& (524288#32) := by
    rw [Int32.toBitVec_and]
    show BitVec.ofNat 32 b &&& 524288#32 = _
    apply BitVec.eq_of_getLsbD_eq
    intro i hi
    simp only [BitVec.getLsbD_and, BitVec.getLsbD_ofNat]
    by_cases e : i = 19
    · subst e
      have t : b.testBit 19 = (b / 524288 * 524288).testBit 19 := by
        rw [Nat.testBit, Nat.testBit, Nat.shiftRight_eq_div_pow, Nat.shiftRight_eq_div_pow]
        congr 2
        omega
      rw [t]
    · have t : (524288 : Nat).testBit i = false := by
        rw [show (524288 : Nat) = 2 ^ 19 by decide, Nat.testBit_two_pow]
        simp
        omega
      rw [t]
      simp
  rw [← Int32.toBitVec_inj, e]
  have k2 := key (b / 524288) (by omega)
  constructor
  · intro h
    have := k2.mp h
    omega
  · intro h
    exact k2.mpr (by omega)
theorem y_trf {ch : Nat} (h0 : 0 < ch) (h4 : ch < 4) {I : SI} {J : SJ} {A : SI} {B : SJ} (h : jInv I J A B) :
    ∃ I' J' A' B', go (p_TC_runTraffic (nI ch) (A 0 36 / 4)) I J I' J' ∧ go (p_Md_trafficSlot (nI ch)) A B A' B' ∧ jInv I' J' A' B' ∧ sT A A' := by
  have hh := h
  obtain ⟨M, W, tb, tm⟩ := h
  rcases y_talk (J := J) (B := B) (ch := ch) M 8 0 (by omega) with ⟨g1, g2⟩ | ⟨m, hm, p13, p14, g1, g2⟩
  · refine ⟨I, J, A, B, fun post q x e => ?_, fun post q x e => ?_, hh, sT.refl A⟩
    · subst e
      exact ⟨9, g1 _ ⟨fun _ => q, fun j e => by cases e⟩⟩
    · subst e
      exact ⟨9, g2 _ _ ⟨fun n => absurd rfl n, fun _ => q⟩⟩
  · have mob := M m hm
    obtain ⟨_, _, ⟨cel, _⟩, ⟨s, hs, s1, s2⟩, _, ⟨pr, _⟩, rd, _, _, _⟩ := id mob
    obtain ⟨g, hg, d4, d5, c, hc, ec⟩ : ∃ g, g < 4 ∧ A 15 m = nI g ∧ I (14 + m) 10 = nI g ∧ ∃ c, c < 3 ∧ A 3 m = nI c := by
      rcases rd with ⟨z, _⟩ | ⟨d, g, hd, hg, d1, d2, d3, d4, d5, c, hc, ec⟩
      · exact absurd (z.symm.trans p13) (by decide)
      · exact ⟨g, hg, d4, d5, c, hc, ec⟩
    have key : I (38 + g) 2 = A 26 g := (W.2.1 g hg).1
    have m8 : ¬ nI m = (8 : Int32) := fun e => by
      have := (nI_eq (b := 8) (by omega) (by decide)).mp e
      omega
    have ecol : nI c + 1 = nI (c + 1) := nI_1 c
    -- what is sent, and the state behind it
    have snd : ∃ (b : Nat) (I1 A1 : SI), b < 2 ^ 20 ∧ jInv I1 J A1 B ∧ sT A A1 ∧ I1 (14 + m) 6 = nI c ∧ (∀ post : SI → SJ → Prop, p_TC_receive (nI c) (nI b) (nI (c + 1)) (fun r16 I14 J15 => p_Sw_groupOn (nI ch) (fun r19 I17 J18 => ((r16 = (-1 : Int32) → post I17 J18) ∧ (¬ r16 = (-1 : Int32) → ((¬ r19 = (-1 : Int32) → (((r16 &&& (524288 : Int32)) = (0) → p_TC_sendOn r16 (nI ch) (A 0 36 / 4) (fun I20 J21 => post I20 J21) I17 J18) ∧ (¬ (r16 &&& (524288 : Int32)) = (0) → p_Sw_endTurn r19 (A 0 36 / 4) (fun I22 J23 => post I22 J23) I17 J18))) ∧ (r19 = (-1 : Int32) → post I17 J18))))) I14 J15) I1 J → p_TC_runTraffic (nI ch) (A 0 36 / 4) post I J) ∧ (∀ post : SI → SJ → Prop, p_Md_trafficSlot_104 (nI ch) post (nI c) (nI b) A1 B → p_Md_trafficSlot (nI ch) post A B) := by
      by_cases e : A 16 m = nI g
      · obtain ⟨b, hb, eb⟩ : ∃ b, b < 2 ^ 19 ∧ ((nI s) ^^^ mxF (A 26 g) (A 0 36 / 4)) &&& (524287 : Int32) = nI b := pk_andE _ 19 (by decide)
        refine ⟨b, I, A, by omega, hh, sT.refl A, cel.trans ec, fun post q x ex => ?_, fun post q x ex => ?_⟩
        · subst ex
          refine ⟨9, g1 _ ⟨fun e => (by cases e), fun j ej => ?_⟩⟩
          have ej' : m = j := Option.some.inj ej
          subst ej'
          refine ⟨g, d5, hg, z_TC_mix ⟨fun _ => ?_, fun n => absurd (pr.trans (e.trans d5.symm)) n⟩⟩
          unfold p_TC_colourOf
          dsimp only
          rw [key, s1, sp_eq s hs, eb, cel, ec, ecol]
          exact q
        · subst ex
          refine ⟨9, g2 _ _ ⟨fun _ => ⟨m, rfl, hm, fun x12 e12 => ⟨m, rfl, hm, m, rfl, hm, g, d4, hg, z_Md_mix (fun x19 e19 => ⟨m, rfl, hm, m, rfl, hm, fun _ => ?_, fun n => absurd (e.trans d4.symm) n⟩)⟩⟩, fun e => absurd e m8⟩⟩
          rw [s2, eb] at e19
          rw [ec] at e12
          subst e19; subst e12
          exact q
      · have om := oM.idle m I A
        have ne : ¬ I (14 + m) 7 = I (14 + m) 10 := fun x => e (pr.symm.trans (x.trans d5))
        have ci : cIdle I m (14 + m) 6 = nI c := by
          rw [show cIdle I m (14 + m) 6 = I (14 + m) 6 by simp [cIdle, xu_at], cel, ec]
        refine ⟨524288, cIdle I m, mIdle A m, by decide, ⟨om.mi hm M (idle_mob mob), om.sw hm W, om.tb tb, om.tm tm⟩, om.sT, ci, fun post q x ex => ?_, fun post q x ex => ?_⟩
        · subst ex
          refine ⟨9, g1 _ ⟨fun e => (by cases e), fun j ej => ?_⟩⟩
          have ej' : m = j := Option.some.inj ej
          subst ej'
          refine ⟨g, d5, hg, z_TC_mix ⟨fun e => absurd e ne, fun _ => s_Mo_turnIdle ?_⟩⟩
          unfold p_TC_colourOf
          dsimp only
          rw [ci, ecol]
          exact q
        · subst ex
          refine ⟨9, g2 _ _ ⟨fun _ => ⟨m, rfl, hm, fun x12 e12 => ⟨m, rfl, hm, m, rfl, hm, g, d4, hg, z_Md_mix (fun x19 e19 => ⟨m, rfl, hm, m, rfl, hm, fun x => absurd (x.trans d4) e, fun _ x63 e63 => s_Md_idle hm ?_⟩)⟩⟩, fun e => absurd e m8⟩⟩
          rw [ec] at e12
          subst e63; subst e12
          exact q
    obtain ⟨b, I1, A1, hb, ⟨M1, W1, tb1, tm1⟩, t1, c1, cls, mdl⟩ := snd
    obtain ⟨v, J2, A2, B2, g3, g4, hv, oa, tb2⟩ := y_get (A := A1) (show c < 11 by omega) hb hc tb1
    have M2 := oa.mi M1
    have W2 := oa.sw W1
    have t2 : sT A A2 := oa.sT.trans t1
    have i2 : jInv I1 J2 A2 B2 := ⟨M2, W2, tb2, oa.tm tm1⟩
    obtain ⟨u, g', g5, g6, eu⟩ := y_on (J := J2) (B := B2) (ch := ch) (fun g hg => (W2.2.1 g hg).2.2) h0 h4
    have cls2 : ∀ post : SI → SJ → Prop, ((v = (-1 : Int32) → post I1 J2) ∧ (¬ v = (-1 : Int32) → ((¬ u = (-1 : Int32) → (((v &&& (524288 : Int32)) = (0) → p_TC_sendOn v (nI ch) (A 0 36 / 4) (fun I20 J21 => post I20 J21) I1 J2) ∧ (¬ (v &&& (524288 : Int32)) = (0) → p_Sw_endTurn u (A 0 36 / 4) (fun I22 J23 => post I22 J23) I1 J2))) ∧ (u = (-1 : Int32) → post I1 J2)))) → p_TC_runTraffic (nI ch) (A 0 36 / 4) post I J := fun post q => cls post (g3 _ (g5 _ q))
    have mdl2 : ∀ post : SI → SJ → Prop, p_Md_trafficSlot_140 (nI ch) post v (nI g') A2 B2 → p_Md_trafficSlot (nI ch) post A B := fun post q => mdl post (g4 _ (fun x e => by subst e; exact g6 post _ v q))
    rcases hv with rfl | ⟨b', hb', rfl⟩
    · exact ⟨I1, J2, A2, B2, fun post q => cls2 post ⟨fun _ => q, fun n => absurd rfl n⟩, fun post q => mdl2 post ⟨fun _ => q, fun n => absurd (by decide) n⟩, i2, t2⟩
    · have nv : ¬ nI b' = (-1 : Int32) := fun e => absurd (by rw [e]; decide) (nI_pos (n := b') (by omega))
      have pv : ¬ nI b' < 0 := nI_pos (by omega)
      rcases eu with ⟨u1, g4'⟩ | ⟨g4', u1, ea⟩
      · refine ⟨I1, J2, A2, B2, fun post q => cls2 post ⟨fun _ => q, fun _ => ⟨fun n => absurd u1 n, fun _ => q⟩⟩, fun post q => mdl2 post ⟨fun _ => q, fun _ => ⟨fun n => absurd (by rw [g4']; rfl) n, fun _ => q⟩⟩, i2, t2⟩
      · have nu : ¬ u = (-1 : Int32) := by
          rw [u1]
          have : ∀ q, q < 4 → ¬ nI q = (-1 : Int32) := by decide +kernel
          exact this g' g4'
        have n4 : ¬ nI g' = (4 : Int32) := fun e => by
          have := (nI_eq (b := 4) (by omega) (by decide)).mp e
          omega
        by_cases l : b' < 524288
        · have z := (hi_bit hb').mpr l
          have lt : nI b' < (524288 : Int32) := nI_lt (b := 524288) l (by decide)
          obtain ⟨I3, J3, A3, B3, g7, g8, i3, t3⟩ := y_hear (ch := ch) hb' 8 0 (by omega) I1 J2 A2 B2 t2.1 i2
          refine ⟨I3, J3, A3, B3, fun post q => cls2 post ⟨fun e => absurd e nv, fun _ => ⟨fun _ => ⟨fun _ x e => ?_, fun n => absurd z n⟩, fun e => absurd e nu⟩⟩, fun post q => mdl2 post ⟨fun e => absurd e pv, fun _ => ⟨fun _ => ⟨fun _ x e => ?_, fun n => absurd lt n⟩, fun e => absurd e n4⟩⟩, i3, t3.trans t2⟩
          · subst e
            exact ⟨9, g7 post q⟩
          · subst e
            exact ⟨9, g8 post q⟩
        · have z : ¬ (nI b' &&& (524288 : Int32)) = 0 := fun e => l ((hi_bit hb').mp e)
          have nl : ¬ nI b' < (524288 : Int32) := nI_nlt (b := 524288) (by omega) (by omega)
          obtain ⟨I3, A3, g7, g8, W3, f3⟩ := y_end (J := J2) (B := B2) g4' h0 h4 ea W2
          rw [t2.1] at g7
          have F := f3.fS
          exact ⟨I3, J2, A3, B2, fun post q => cls2 post ⟨fun e => absurd e nv, fun _ => ⟨fun _ => ⟨fun e => absurd e z, fun _ => by rw [u1]; exact g7 post q⟩, fun e => absurd e nu⟩⟩, fun post q => mdl2 post ⟨fun e => absurd e pv, fun _ => ⟨fun _ => ⟨fun e => absurd e nl, fun _ => g8 post q⟩, fun e => absurd e n4⟩⟩, ⟨F.mi M2, W3, F.tb tb2, F.tm i2.2.2.2⟩, F.sT.trans t2⟩
