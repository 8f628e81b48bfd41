/-! slots and ticks -/
theorem y_long1 {J B : SJ} {T : Int32} (k i : Nat) (hi : i + k = 4) (I A : SI) (eT : A 0 36 = T) (h : SW I A) :
    ∃ I' A', (∀ post : SI → SJ → Prop, post I' J → p_Sw_endLongTurns_L2 (T / 4) post (k + 1) (nI i) I J) ∧ (∀ post : SI → SJ → Prop, post (xu A' 0 36 (A' 0 36 + 1)) B → p_Md_slot_L44 post (k + 1) (nI i) A B) ∧ SW I' A' ∧ fB I I' A A' := by
  induction k generalizing i I A with
  | zero =>
    have e : i = 4 := by omega
    subst e
    exact ⟨I, A, fun post q => ⟨fun _ => q, fun hx => absurd (by decide) hx⟩, fun post q => ⟨fun _ I6 e6 => (by subst e6; exact q), fun hx => absurd (by decide) hx⟩, h, fB.refl I A⟩
  | succ k ih =>
    have hi4 : i < 4 := by omega
    have e1 : nI i + 1 = nI (i + 1) := nI_1 i
    have rc := (h.2.1 i hi4).2.2
    have no := cl_no rc
    have skip : ((¬ A 27 i = 0) → T / 4 - I (38 + i) 5 < 8 ∧ T / 4 - A 29 i < 8) → ∃ I' A', (∀ post : SI → SJ → Prop, post I' J → p_Sw_endLongTurns_L2 (T / 4) post (k + 1 + 1) (nI i) I J) ∧ (∀ post : SI → SJ → Prop, post (xu A' 0 36 (A' 0 36 + 1)) B → p_Md_slot_L44 post (k + 1 + 1) (nI i) A B) ∧ SW I' A' ∧ fB I I' A A' := by
      intro sk
      obtain ⟨I2, A2, g3, g4, w2, f2⟩ := ih (i + 1) (by omega) I A eT h
      have c2 : ∀ post : SI → SJ → Prop, post I2 J → p_Sw_endLongTurns_41 (T / 4) post (p_Sw_endLongTurns_L2 (T / 4) post (k + 1)) (nI i) I J := fun post q x e => by
        rw [e1] at e
        subst e
        exact g3 post q
      have m2 : ∀ post : SI → SJ → Prop, post (xu A2 0 36 (A2 0 36 + 1)) B → p_Md_slot_81 post (p_Md_slot_L44 post (k + 1)) (nI i) A B := fun post q x e => by
        rw [e1] at e
        subst e
        exact g4 post q
      refine ⟨I2, A2, fun post q => ⟨fun hx => absurd hx (nI_ge (b := 4) (by omega) (by decide)), fun _ => ⟨i, rfl, hi4, fun _ => ⟨fun _ => c2 post q, fun n => absurd rfl n⟩, fun n => ⟨fun e => absurd e (by decide), fun _ => ⟨i, rfl, hi4, fun _ => c2 post q, fun n2 => absurd (sk (fun e => n (no.1.mpr e))).1 n2⟩⟩⟩⟩, fun post q => ⟨fun hx => absurd hx (nI_ge (b := 4) (by omega) (by decide)), fun _ => ⟨i, rfl, hi4, fun _ => m2 post q, fun n => ⟨i, rfl, hi4, fun _ => m2 post q, fun n2 => absurd (by rw [eT]; exact (sk (fun e => n (no.2.mpr e))).2) n2⟩⟩⟩, w2, f2⟩
    by_cases z : A 27 i = 0
    · exact skip (fun n => absurd z n)
    · rcases rc with ⟨zz, _⟩ | ⟨c, x, c0, c4, hx, a1, a2, a3, a4, a5⟩
      · exact absurd zz z
      · by_cases l : T / 4 - A 29 i < 8
        · exact skip (fun _ => ⟨by rw [a5]; exact l, l⟩)
        · obtain ⟨I1, A1, g1, g2, w, f⟩ := y_end (J := J) (B := B) hi4 c0 c4 a1 h
          rw [eT] at g1
          obtain ⟨I2, A2, g3, g4, w2, f2⟩ := ih (i + 1) (by omega) I1 A1 (by rw [f.2 0 (by decide)]; exact eT) w
          refine ⟨I2, A2, fun post q => ⟨fun hx => absurd hx (nI_ge (b := 4) (by omega) (by decide)), fun _ => ⟨i, rfl, hi4, fun e => absurd (no.1.mp e) z, fun _ => ⟨fun e => absurd e (by decide), fun _ => ⟨i, rfl, hi4, fun e => absurd (by rw [a5] at e; exact e) l, fun _ => g1 _ (fun x e => ?_)⟩⟩⟩⟩, fun post q => ⟨fun hx => absurd hx (nI_ge (b := 4) (by omega) (by decide)), fun _ => ⟨i, rfl, hi4, fun e => absurd (no.2.mp e) z, fun _ => ⟨i, rfl, hi4, fun e => absurd (by rw [eT] at e; exact e) l, fun _ => g2 _ (fun x e => ?_)⟩⟩⟩, w2, f.trans f2⟩
          · rw [e1] at e
            subst e
            exact g3 post q
          · rw [e1] at e
            subst e
            exact g4 post q
theorem y_run1 {T : Int32} (k c : Nat) (hk : c + k = 3) (I : SI) (J : SJ) (A : SI) (B : SJ) (eT : A 0 36 = T) (h : jInv I J A B) :
    ∃ I' J' A' B', (∀ post : SI → SJ → Prop, post I' J' → p_TC_runControl_L2 (T / 4) post (k + 1) (nI c) I J) ∧ (∀ (post : SI → SJ → Prop) (k29 : Int32 → SI → SJ → Prop) (v1 : Int32), k29 v1 A' B' → p_Md_slot_L13 post k29 (k + 1) v1 (nI c) A B) ∧ jInv I' J' A' B' ∧ sT A A' := by
  induction k generalizing c I J A B with
  | zero =>
    have e : c = 3 := by omega
    subst e
    exact ⟨I, J, A, B, fun post q => ⟨fun _ => q, fun hx => absurd (by decide) hx⟩, fun post k29 v1 q => ⟨fun _ => q, fun hx => absurd (by decide) hx⟩, h, sT.refl A⟩
  | succ k ih =>
    obtain ⟨I1, J1, A1, B1, g1, g2, i1, t1⟩ := y_ctl (show c < 3 by omega) h
    rw [eT] at g1
    obtain ⟨I2, J2, A2, B2, g3, g4, i2, t2⟩ := ih (c + 1) (by omega) I1 J1 A1 B1 (t1.1.trans eT) i1
    refine ⟨I2, J2, A2, B2, fun post q => ⟨fun hx => absurd hx (nI_ge (b := 3) (by omega) (by decide)), fun _ => g1 post _ (g3 post q)⟩, fun post k29 v1 q => ⟨fun hx => absurd hx (nI_ge (b := 3) (by omega) (by decide)), fun _ => g2 _ (fun x e => ?_)⟩, i2, t2.trans t1⟩
    rw [nI_1] at e
    subst e
    exact g4 post k29 v1 q
/-- a clock goes on -/
theorem tick_inv {I : SI} {J : SJ} {A : SI} {B : SJ} {t : Nat} (h : jInv I J A B) (ht : t + 1 ≤ 1000000000) : jInv (xu I 0 4 (nI (t + 1))) J (xu A 0 36 (nI (t + 1))) B := by
  obtain ⟨M, W, tb, tm⟩ := h
  have i : ∀ o, o ≠ 0 → xu I 0 4 (nI (t + 1)) o = I o := fun o ho => xu_o _ _ _ ho
  have a : ∀ o, o ≠ 0 → xu A 0 36 (nI (t + 1)) o = A o := fun o ho => xu_o _ _ _ ho
  refine ⟨fun m hm => rMob_of (M m hm) (i _ (by omega)) (i _ (by omega)) (i _ (by omega)) (fun o _ _ _ _ _ _ => by rw [a o (by omega)]) (fun k _ => by rw [a 18 (by decide)]), ⟨fun m hm => rPl_of (W.1 m hm) (by rw [i 7 (by decide)]) (by rw [i 8 (by decide)]) (by rw [i 9 (by decide)]) (by rw [a 5 (by decide)]) (by rw [a 6 (by decide)]) (by rw [a 24 (by decide)]), fun g hg => rGrp_of (W.2.1 g hg) (i _ (by omega)) (i _ (by omega)) (fun o _ _ _ => by rw [a o (by omega)]) (fun k _ => by rw [a 30 (by decide)]), fun c hc => rSy_of (W.2.2 c hc) (i _ (by omega)) (i _ (by omega)) (by rw [a 33 (by decide)]) (fun k _ => by rw [a 32 (by decide)])⟩, ⟨hSum_of tb.1 (i 3 (by decide)), tb.2⟩, ⟨t + 1, ht, xu_s _ _ _ _, xu_s _ _ _ _⟩⟩
theorem thr_inv {I : SI} {J : SJ} {A : SI} {B : SJ} (h : jInv I J A B) (v : Int32) : jInv I J (xu A 0 0 v) B := by
  obtain ⟨M, W, tb, tm⟩ := h
  have a : ∀ o, o ≠ 0 → xu A 0 0 v o = A o := fun o ho => xu_o _ _ _ ho
  refine ⟨fun m hm => rMob_of (M m hm) rfl rfl rfl (fun o _ _ _ _ _ _ => by rw [a o (by omega)]) (fun k _ => by rw [a 18 (by decide)]), ⟨fun m hm => rPl_of (W.1 m hm) rfl rfl rfl (by rw [a 5 (by decide)]) (by rw [a 6 (by decide)]) (by rw [a 24 (by decide)]), fun g hg => rGrp_of (W.2.1 g hg) rfl rfl (fun o _ _ _ => by rw [a o (by omega)]) (fun k _ => by rw [a 30 (by decide)]), fun c hc => rSy_of (W.2.2 c hc) rfl rfl (by rw [a 33 (by decide)]) (fun k _ => by rw [a 32 (by decide)])⟩, tb, ?_⟩
  unfold rTm
  rw [xu_k _ _ _ (show 36 ≠ 0 by decide)]
  exact tm
theorem y_slot {I : SI} {J : SJ} {A : SI} {B : SJ} {t : Nat} (h : jInv I J A B) (e1 : I 0 4 = nI t) (e2 : A 0 36 = nI t) (ht : t + 1 ≤ 1000000000) :
    ∃ I' J' A' B', (∀ (p1 : Int32) (post : Int32 → SI → SJ → Prop) (exc : Nat → SI → SJ → Prop) (k34 : Int32 → SI → SJ → Prop) (v2 : Int32), k34 (v2 + 1) I' J' → (∀ x2, x2 = xrm (I 0 4) (4 : Int32) → ∀ x3, x3 = (I 0 4) / (4 : Int32) → ((¬ x2 = (0) → p_TC_runTraffic x2 x3 (fun I4 J5 => p_TC_tick_74 p1 post exc k34 v2 x2 x3 I4 J5) I J) ∧ (x2 = (0) → p_TC_runControl x3 (fun I11 J12 => p_TC_tick_74 p1 post exc k34 v2 x2 x3 I11 J12) I J)))) ∧ go p_Md_slot A B A' B' ∧ jInv I' J' A' B' ∧ I' 0 4 = nI (t + 1) ∧ A' 0 36 = nI (t + 1) ∧ A' 0 0 = A 0 0 := by
  have er : xrm (nI t) (4 : Int32) = nI (t % 4) := pk_rem (d := 4) (by omega) (by decide) (by decide)
  have hr : t % 4 < 4 := Nat.mod_lt _ (by decide)
  -- the end of a slot: what is behind it is told by the states before it
  have fin : ∀ (I1 : SI) (J1 : SJ) (A1 : SI) (B1 : SJ), jInv I1 J1 A1 B1 → sT A A1 → ∃ I' A', (∀ (p1 : Int32) (post : Int32 → SI → SJ → Prop) (exc : Nat → SI → SJ → Prop) (k34 : Int32 → SI → SJ → Prop) (v2 : Int32), k34 (v2 + 1) I' J1 → p_TC_tick_74 p1 post exc k34 v2 (nI (t % 4)) (nI t / 4) I1 J1) ∧ (∀ post : SI → SJ → Prop, post A' B1 → p_Md_slot_37 post (nI (t % 4)) A1 B1) ∧ jInv I' J1 A' B1 ∧ I' 0 4 = nI (t + 1) ∧ A' 0 36 = nI (t + 1) ∧ A' 0 0 = A 0 0 := by
    intro I1 J1 A1 B1 i1 s1
    have a36 : A1 0 36 = nI t := s1.1.trans e2
    have i04 : I1 0 4 = nI t := by
      obtain ⟨_, _, _, ⟨t', ht', q1, q2⟩⟩ := i1
      rw [q1, ← q2, a36]
    by_cases z : t % 4 = 3
    · obtain ⟨M, W, tb, tm⟩ := i1
      obtain ⟨I2, A2, g1, g2, w, f⟩ := y_long1 (J := J1) (B := B1) 4 0 (by omega) I1 A1 a36 W
      have F := f.fS
      have b04 : I2 0 4 = nI t := by rw [f.1 0 (by decide)]; exact i04
      have b36 : A2 0 36 = nI t := by rw [f.2 0 (by decide)]; exact a36
      have b00 : A2 0 0 = A 0 0 := by rw [f.2 0 (by decide)]; exact s1.2
      refine ⟨xu I2 0 4 (nI (t + 1)), xu A2 0 36 (nI (t + 1)), fun p1 post exc k34 v2 q => ⟨fun n => absurd (by rw [z]; rfl) n, fun _ x e => ?_⟩, fun post q => ⟨fun n => absurd (by rw [z]; rfl) n, fun _ x e => ?_⟩, tick_inv ⟨F.mi M, w, F.tb tb, F.tm tm⟩ ht, xu_s _ _ _ _, xu_s _ _ _ _, by rw [xu_k _ _ _ (by decide)]; exact b00⟩
      · subst e
        refine ⟨5, g1 _ (fun I6 e6 x7 e7 => ?_)⟩
        rw [b04, nI_1] at e6
        subst e6; subst e7
        exact q
      · subst e
        refine ⟨5, g2 post ?_⟩
        rw [b36, nI_1]
        exact q
    · have n3 : ¬ nI (t % 4) = (3 : Int32) := fun e => z ((nI_eq (b := 3) (by omega) (by decide)).mp e)
      refine ⟨xu I1 0 4 (nI (t + 1)), xu A1 0 36 (nI (t + 1)), fun p1 post exc k34 v2 q => ⟨fun _ I6 e6 x7 e7 => ?_, fun e => absurd e n3⟩, fun post q => ⟨fun _ I4 e4 => ?_, fun e => absurd e n3⟩, tick_inv i1 ht, xu_s _ _ _ _, xu_s _ _ _ _, by rw [xu_k _ _ _ (by decide)]; exact s1.2⟩
      · rw [i04, nI_1] at e6
        subst e6; subst e7
        exact q
      · rw [a36, nI_1] at e4
        subst e4
        exact q
  by_cases z : t % 4 = 0
  · obtain ⟨I1, J1, A1, B1, g1, g2, i1, t1⟩ := y_run1 (T := nI t) 3 0 (by omega) I J A B e2 h
    obtain ⟨I2, A2, g3, g4, i2, q1, q2, q3⟩ := fin I1 J1 A1 B1 i1 t1
    refine ⟨I2, J1, A2, B1, fun p1 post exc k34 v2 q x2 ex2 x3 ex3 => ?_, fun post q x1 ex1 => ?_, i2, q1, q2, q3⟩
    · rw [e1, er] at ex2
      rw [e1] at ex3
      subst ex2; subst ex3
      refine ⟨fun n => absurd (by rw [z]; rfl) n, fun _ x e => ?_⟩
      subst e
      exact ⟨4, g1 _ (g3 p1 post exc k34 v2 q)⟩
    · rw [e2, er] at ex1
      subst ex1
      refine ⟨fun n => absurd (by rw [z]; rfl) n, fun _ x e => ?_⟩
      subst e
      exact ⟨4, g2 post _ _ (g4 post q)⟩
  · obtain ⟨I1, J1, A1, B1, g1, g2, i1, t1⟩ := y_trf (ch := t % 4) (by omega) hr h
    obtain ⟨I2, A2, g3, g4, i2, q1, q2, q3⟩ := fin I1 J1 A1 B1 i1 t1
    rw [e2] at g1
    have nz : ¬ nI (t % 4) = 0 := nI_ne0 (by omega) (by omega)
    refine ⟨I2, J1, A2, B1, fun p1 post exc k34 v2 q x2 ex2 x3 ex3 => ?_, fun post q x1 ex1 => ?_, i2, q1, q2, q3⟩
    · rw [e1, er] at ex2
      rw [e1] at ex3
      subst ex2; subst ex3
      exact ⟨fun _ => g1 _ (g3 p1 post exc k34 v2 q), fun e => absurd e nz⟩
    · rw [e2, er] at ex1
      subst ex1
      exact ⟨fun _ => g2 _ (g4 post q), fun e => absurd e nz⟩
theorem y_tick1 {n : Nat} (hn : n ≤ 200) (k i : Nat) (hi : i + k = n) (I : SI) (J : SJ) (A : SI) (B : SJ) (t : Nat) (h : jInv I J A B) (e1 : I 0 4 = nI t) (e2 : A 0 36 = nI t) (ht : t + k ≤ 1000000000) :
    ∃ I' J' A' B', (∀ (post : Int32 → SI → SJ → Prop) (exc : Nat → SI → SJ → Prop), post (nI (t + k)) I' J' → p_TC_tick_L34 (nI n) post exc (k + 1) (nI i) I J) ∧ (∀ post : Int32 → SI → SJ → Prop, post (nI (t + k)) A' B' → p_Md_tick_L42 (nI n) post (k + 1) (nI i) A B) ∧ jInv I' J' A' B' ∧ A' 0 0 = A 0 0 := by
  induction k generalizing i I J A B t with
  | zero =>
    have e : i = n := by omega
    subst e
    have le : nI i ≤ nI i := (nI_leI (a := i) (b := i) (by omega) (by omega)).mpr (Nat.le_refl _)
    exact ⟨I, J, A, B, fun post exc q => ⟨fun _ => by rw [e1]; exact q, fun hx => absurd le hx⟩, fun post q => ⟨fun _ => by rw [e2]; exact q, fun hx => absurd le hx⟩, h, rfl⟩
  | succ k ih =>
    obtain ⟨I1, J1, A1, B1, g1, g2, i1, q1, q2, q3⟩ := y_slot h e1 e2 (by omega)
    obtain ⟨I2, J2, A2, B2, g3, g4, i2, q4⟩ := ih (i + 1) (by omega) I1 J1 A1 B1 (t + 1) i1 q1 q2 (by omega)
    have et : t + 1 + k = t + (k + 1) := by omega
    have nle : ¬ nI n ≤ nI i := nI_ge (by omega) (by omega)
    refine ⟨I2, J2, A2, B2, fun post exc q => ⟨fun e => absurd e nle, fun _ => g1 (nI n) post exc _ (nI i) ?_⟩, fun post q => ⟨fun e => absurd e nle, fun _ => g2 _ (fun x e => ?_)⟩, i2, q4.trans q3⟩
    · rw [nI_1]
      exact g3 post exc (by rw [et]; exact q)
    · rw [nI_1] at e
      subst e
      exact g4 post (by rw [et]; exact q)
theorem y_tick {I : SI} {J : SJ} {A : SI} {B : SJ} (h : jInv I J A B) (p1 : Int32) :
    ((∀ (post : Int32 → SI → SJ → Prop) (exc : Nat → SI → SJ → Prop), exc 3 I J → p_TC_tick p1 post exc I J) ∧ gi (p_Md_tick p1) A B 0 (xu A 0 0 1) B) ∨
    ∃ (v : Int32) (I' : SI) (J' : SJ) (A' : SI) (B' : SJ), (∀ (post : Int32 → SI → SJ → Prop) (exc : Nat → SI → SJ → Prop), post v I' J' → p_TC_tick p1 post exc I J) ∧ gi (p_Md_tick p1) A B v A' B' ∧ jInv I' J' A' B' ∧ A' 0 0 = 0 := by
  obtain ⟨t, ht, e1, e2⟩ := h.2.2.2
  have bad : ∀ post : Int32 → SI → SJ → Prop, post 0 (xu A 0 0 1) B → p_Md_tick_23 p1 post A B := fun post q I1 e => by
    subst e
    exact ⟨fun e => absurd ((xu_s A 0 0 1).symm.trans e) (by decide), fun _ => q⟩
  rcases ix_all p1 (n := 201) (by decide) with (l | l) | ⟨n, hn, rfl⟩
  · exact Or.inl ⟨fun post exc q => ⟨fun _ => q, fun n => absurd l n⟩, fun post q => ⟨fun _ => bad post q, fun n => absurd l n⟩⟩
  · have l2 : (200 : Int32) < p1 := by
      rw [Int32.le_iff_toInt_le] at l
      rw [Int32.lt_iff_toInt_lt]
      have a1 : (200 : Int32).toInt = 200 := by decide
      have a2 : (nI 201).toInt = 201 := by decide
      omega
    exact Or.inl ⟨fun post exc q => ⟨fun _ => q, fun _ => ⟨fun _ => q, fun n => absurd l2 n⟩⟩, fun post q => ⟨fun _ => bad post q, fun _ => ⟨fun _ => bad post q, fun n => absurd l2 n⟩⟩⟩
  · have n0 : ¬ nI n < 0 := nI_pos (by omega)
    have n2 : ¬ (200 : Int32) < nI n := nI_nlt (a := 200) (by omega) (by decide)
    have s1 : (1000000000 : Int32) - nI t = nI (1000000000 - t) := pk_sub (a := 1000000000) ht
    have s2 : (1000000000 : Int32) - nI n = nI (1000000000 - n) := pk_sub (a := 1000000000) (by omega)
    by_cases l : t + n ≤ 1000000000
    · have l1 : nI n ≤ (1000000000 : Int32) - I 0 4 := by
        rw [e1, s1]
        exact nI_le (by omega) (by omega)
      have l2 : A 0 36 ≤ (1000000000 : Int32) - nI n := by
        rw [e2, s2]
        exact nI_le (by omega) (by omega)
      obtain ⟨I', J', A', B', g1, g2, i', z⟩ := y_tick1 (n := n) (by omega) n 0 (by omega) I J (xu A 0 0 0) B t (thr_inv h 0) e1 (by rw [xu_k _ _ _ (by decide)]; exact e2) l
      refine Or.inr ⟨nI (t + n), I', J', A', B', fun post exc q => ⟨fun e => absurd e n0, fun _ => ⟨fun e => absurd e n2, fun _ => ⟨fun _ x e => ?_, fun m => absurd l1 m⟩⟩⟩, fun post q => ⟨fun e => absurd e n0, fun _ => ⟨fun e => absurd e n2, fun _ => ⟨fun _ I1 e => ?_, fun m => absurd l2 m⟩⟩⟩, i', z.trans (xu_s _ _ _ _)⟩
      · subst e
        exact ⟨n + 1, g1 post exc q⟩
      · subst e
        refine ⟨fun _ x ex => ?_, fun m => absurd (xu_s A 0 0 0) m⟩
        subst ex
        exact ⟨n + 1, g2 post q⟩
    · have l1 : ¬ nI n ≤ (1000000000 : Int32) - I 0 4 := by
        rw [e1, s1]
        exact nI_ge (by omega) (by omega)
      have l2 : ¬ A 0 36 ≤ (1000000000 : Int32) - nI n := by
        rw [e2, s2]
        exact nI_ge (by omega) (by omega)
      exact Or.inl ⟨fun post exc q => ⟨fun e => absurd e n0, fun _ => ⟨fun e => absurd e n2, fun _ => ⟨fun e => absurd e l1, fun _ => q⟩⟩⟩, fun post q => ⟨fun e => absurd e n0, fun _ => ⟨fun e => absurd e n2, fun _ => ⟨fun e => absurd e l2, fun _ => bad post q⟩⟩⟩⟩
