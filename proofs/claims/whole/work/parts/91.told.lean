/-! what a mobile makes of a block -/
theorem y_told {I : SI} {J : SJ} {A : SI} {B : SJ} {m b c : Nat} (hm : m < 8) (hb : b < 2 ^ 20) (hc : c < 3) (h : rMob m I A) (ic : A 3 m = nI c) (sn : I (22 + m) 3 = 0 ↔ A 12 m = 0 ∨ A 7 m = 0) (r16 : Int32) (hr : r16 = 0 ↔ ¬ Mb A (b / 2048 % 4) m) :
    ∃ I' A', go (p_Mo_obey m (nI b) r16) I J I' J ∧ go (p_Md_told (nI m) (nI b)) A B A' B ∧ rMob m I' A' ∧ oM m I I' A A' ∧ A' 3 = A 3 ∧ A' 12 = A 12 ∧ (I' (22 + m) 3 = 0 ↔ A' 12 m = 0 ∨ A' 7 m = 0) := by
  have hh := h
  obtain ⟨h1, h2, h3, h4, h5, ⟨h6, h6'⟩, h7, h8, h9, ⟨k, w, r, k4, w16, r512, e7, k0, kn⟩⟩ := h
  have hg : b / 2048 % 4 < 4 := Nat.mod_lt _ (by decide)
  have hl : b / 512 % 4 < 4 := Nat.mod_lt _ (by decide)
  have hw : b / 8192 % 8 < 8 := Nat.mod_lt _ (by decide)
  have hkd : b / 65536 < 16 := by omega
  have eo : ((16 : Int32) * nI (b % 512)) + nI (b / 512 % 16) = (((16 : Int32) * nI (b % 512)) + ((4 : Int32) * nI (b / 2048 % 4))) + nI (b / 512 % 4) := by
    rw [show (16 : Int32) * nI (b % 512) = nI (16 * (b % 512)) from pk_mul 16 _, show (4 : Int32) * nI (b / 2048 % 4) = nI (4 * (b / 2048 % 4)) from pk_mul 4 _, nI_add, nI_add, nI_add]
    congr 1
    omega
  have cls : ∀ (post : SI → SJ → Prop) (s0 : Int32), (s0 = 0 ↔ ¬ b / 8192 % 8 = m) → (s0 = 0 ∨ s0 = 1) → ((nI (b / 65536) = (8 : Int32) → ((s0 = (0) → post I J) ∧ (¬ s0 = (0) → (((I (22 + m) 3) = (0) → post I J) ∧ (¬ (I (22 + m) 3) = (0) → post (cPut I m 0) J))))) ∧ (¬ nI (b / 65536) = (8 : Int32) → ((nI (b / 65536) = (9 : Int32) → ((r16 = (0) → post I J) ∧ (¬ r16 = (0) → p_Mo_followGrant m s0 (nI (b / 2048 % 4)) (nI (b / 512 % 4)) post I J))) ∧ (¬ nI (b / 65536) = (9 : Int32) → ((nI (b / 65536) = (10 : Int32) → ((¬ (I (14 + m) 10) = nI (b / 2048 % 4) → post I J) ∧ ((I (14 + m) 10) = nI (b / 2048 % 4) → post (cIdle I m) J))) ∧ (¬ nI (b / 65536) = (10 : Int32) → ((nI (b / 65536) = (11 : Int32) → ((s0 = (0) → post I J) ∧ (¬ s0 = (0) → post (cGot I m (((16 : Int32) * nI (b % 512)) + nI (b / 512 % 16))) J))) ∧ (¬ nI (b / 65536) = (11 : Int32) → post I J)))))))) → p_Mo_obey m (nI b) r16 post I J := by
    intro post s0 z1 z2 q
    have st : p_Mo_obey_16 m (nI b) r16 post s0 I J := by
      unfold p_Mo_obey_16 p_Bk_kindOf p_Bk_groupOf p_Bk_levelOf p_Bk_restOf p_Bk_otherOf
      rw [fu_16 hb, fu_11 hb, fu_9 hb, fu_o hb, fr hb]
      refine ⟨fun e8 => ⟨((q.1 e8).1), fun n0 => ⟨((q.1 e8).2 n0).1, fun n3 => s_Me_drop (((q.1 e8).2 n0).2 n3)⟩⟩, fun n8 => ⟨fun e9 => (q.2 n8).1 e9, fun n9 => ⟨fun e10 => ⟨(((q.2 n8).2 n9).1 e10).1, fun eg => s_Mo_turnIdle ((((q.2 n8).2 n9).1 e10).2 eg)⟩, fun n10 => ⟨fun e11 => ⟨((((q.2 n8).2 n9).2 n10).1 e11).1, fun n0 I29 e29 I36 e36 => ?_⟩, (((q.2 n8).2 n9).2 n10).2⟩⟩⟩⟩
      subst e29
      subst e36
      exact ((((q.2 n8).2 n9).2 n10).1 e11).2 n0
    unfold p_Mo_obey p_Bk_mobileOf
    rw [fu_13 hb]
    refine ⟨fun hn => ?_, fun he => ?_⟩
    · rw [h1] at hn
      have z : s0 = 0 := z1.mpr (fun e => hn (by rw [e]))
      rw [← z]
      exact st
    · rw [h1] at he
      have z : s0 = 1 := z2.resolve_left (fun e => (z1.mp e) ((nI_eq (by omega) (by omega)).mp he))
      rw [← z]
      exact st
  have mdl : ∀ post : SI → SJ → Prop, ((¬ nI (b / 65536) = (8 : Int32) → p_Md_told_56 (nI m) (nI b) post (nI (b / 65536)) (nI (b / 8192 % 8)) (nI (b / 2048 % 4)) (nI (b / 512 % 4)) A B) ∧ (nI (b / 65536) = (8 : Int32) → ((¬ nI (b / 8192 % 8) = nI m → p_Md_told_56 (nI m) (nI b) post (nI (b / 65536)) (nI (b / 8192 % 8)) (nI (b / 2048 % 4)) (nI (b / 512 % 4)) A B) ∧ (nI (b / 8192 % 8) = nI m → (((A 12 m) = (0) → p_Md_told_56 (nI m) (nI b) post (nI (b / 65536)) (nI (b / 8192 % 8)) (nI (b / 2048 % 4)) (nI (b / 512 % 4)) A B) ∧ (¬ (A 12 m) = (0) → p_Md_told_56 (nI m) (nI b) post (nI (b / 65536)) (nI (b / 8192 % 8)) (nI (b / 2048 % 4)) (nI (b / 512 % 4)) (mNo A m) B)))))) → p_Md_told (nI m) (nI b) post A B := by
    intro post q x1 e1 x2 e2 x3 e3 x4 e4
    rw [fs_16 hb] at e1
    rw [fs_13 hb] at e2
    rw [fs_11 hb] at e3
    rw [fs_9 hb] at e4
    subst e1; subst e2; subst e3; subst e4
    exact ⟨q.1, fun e8 => ⟨(q.2 e8).1, fun ew => ⟨m, rfl, hm, ((q.2 e8).2 ew).1, fun n => s_Md_noMessage hm (((q.2 e8).2 ew).2 n)⟩⟩⟩
  have er : nI b &&& (511 : Int32) = nI (b % 512) := fr hb
  generalize b / 65536 = kd at cls mdl hkd
  generalize b / 8192 % 8 = who at cls mdl hw
  generalize b / 2048 % 4 = g at cls mdl hg hr eo
  generalize b / 512 % 4 = l at cls mdl hl eo
  have kq : ∀ q, q < 16 → (nI kd = nI q ↔ kd = q) := fun q hq => nI_eq (by omega) (by omega)
  have t190 : ∀ (A' : SI) (post : SI → SJ → Prop), kd ≠ 11 → post A' B → p_Md_told_190 (nI m) (nI b) post (nI kd) (nI who) (nI g) (nI l) A' B := fun A' post hn q => ⟨fun _ => q, fun hx => absurd ((kq 11 (by decide)).mp hx) hn⟩
  have t159 : ∀ (A' : SI) (post : SI → SJ → Prop), kd ≠ 10 → p_Md_told_190 (nI m) (nI b) post (nI kd) (nI who) (nI g) (nI l) A' B → p_Md_told_159 (nI m) (nI b) post (nI kd) (nI who) (nI g) (nI l) A' B := fun A' post hn q => ⟨fun _ => q, fun hx => absurd ((kq 10 (by decide)).mp hx) hn⟩
  have t56 : ∀ (A' : SI) (post : SI → SJ → Prop), kd ≠ 9 → p_Md_told_159 (nI m) (nI b) post (nI kd) (nI who) (nI g) (nI l) A' B → p_Md_told_56 (nI m) (nI b) post (nI kd) (nI who) (nI g) (nI l) A' B := fun A' post hn q => ⟨fun _ => q, fun hx => absurd ((kq 9 (by decide)).mp hx) hn⟩
  have s0e : ∃ s0 : Int32, (s0 = 0 ↔ ¬ who = m) ∧ (s0 = 0 ∨ s0 = 1) := by
    by_cases e : who = m
    · exact ⟨1, ⟨fun e1 => absurd e1 (by decide), fun n => absurd e n⟩, Or.inr rfl⟩
    · exact ⟨0, ⟨fun _ => e, fun _ => rfl⟩, Or.inl rfl⟩
  obtain ⟨s0, z1, z2⟩ := s0e
  have same : ∃ I' A', I' = I ∧ A' = A ∧ rMob m I' A' ∧ oM m I I' A A' ∧ A' 3 = A 3 ∧ A' 12 = A 12 ∧ (I' (22 + m) 3 = 0 ↔ A' 12 m = 0 ∨ A' 7 m = 0) := ⟨I, A, rfl, rfl, hh, oM.refl m I A, rfl, rfl, sn⟩
  by_cases k8 : kd = 8
  · subst k8
    have c1 : ∀ post : SI → SJ → Prop, ((s0 = (0) → post I J) ∧ (¬ s0 = (0) → (((I (22 + m) 3) = (0) → post I J) ∧ (¬ (I (22 + m) 3) = (0) → post (cPut I m 0) J)))) → p_Mo_obey m (nI b) r16 post I J := fun post q => cls post s0 z1 z2 ⟨fun _ => q, fun n => absurd rfl n⟩
    have t8 : ∀ (A' : SI) (post : SI → SJ → Prop), post A' B → p_Md_told_56 (nI m) (nI b) post (nI 8) (nI who) (nI g) (nI l) A' B := fun A' post q => t56 A' post (by decide) (t159 A' post (by decide) (t190 A' post (by decide) q))
    by_cases ew : who = m
    · have n0 : ¬ s0 = 0 := fun e => (z1.mp e) ew
      by_cases s : I (22 + m) 3 = 0
      · have em : ¬ A 12 m = 0 → mNo A m = A := by
          intro n
          have a7 := (sn.mp s).resolve_left n
          have kz : k = 0 := Classical.byContradiction (fun e => absurd a7 (by rw [e7]; exact nI_ne0 (by omega) (by omega)))
          obtain ⟨_, _, a10, a11⟩ := k0 kz
          unfold mNo
          rw [xu_id a7, xu_id a10, xu_id a11]
        refine ⟨I, A, fun post q => c1 post ⟨fun e => absurd e n0, fun _ => ⟨fun _ => q, fun n => absurd s n⟩⟩, fun post q => mdl post ⟨fun n => absurd rfl n, fun _ => ⟨fun _ => t8 A post q, fun _ => ⟨fun _ => t8 A post q, fun n => by rw [em n]; exact t8 A post q⟩⟩⟩, hh, oM.refl m I A, rfl, rfl, sn⟩
      · have n12 : ¬ A 12 m = 0 := fun e => s (sn.mpr (Or.inl e))
        refine ⟨cPut I m 0, mNo A m, fun post q => c1 post ⟨fun e => absurd e n0, fun _ => ⟨fun e => absurd e s, fun _ => q⟩⟩, fun post q => mdl post ⟨fun n => absurd rfl n, fun _ => ⟨fun n => absurd (by rw [ew]) n, fun _ => ⟨fun e => absurd e n12, fun _ => t8 _ post q⟩⟩⟩, drop_mob hh, oM.drop m I A, by funext k; simp [mNo, xu_at], by funext k; simp [mNo, xu_at], ?_⟩
        simp [cPut, mNo, xu_at]
    · have n0 : s0 = 0 := z1.mpr ew
      exact ⟨I, A, fun post q => c1 post ⟨fun _ => q, fun n => absurd n0 n⟩, fun post q => mdl post ⟨fun n => absurd rfl n, fun _ => ⟨fun _ => t8 A post q, fun e => absurd ((nI_eq (by omega) (by omega)).mp e) ew⟩⟩, hh, oM.refl m I A, rfl, rfl, sn⟩
  · have n8 : ¬ nI kd = (8 : Int32) := fun e => k8 ((kq 8 (by decide)).mp e)
    have m1 : ∀ post : SI → SJ → Prop, p_Md_told_56 (nI m) (nI b) post (nI kd) (nI who) (nI g) (nI l) A B → p_Md_told (nI m) (nI b) post A B := fun post q => mdl post ⟨fun _ => q, fun e => absurd e n8⟩
    by_cases k9 : kd = 9
    · subst k9
      have c1 : ∀ post : SI → SJ → Prop, ((r16 = (0) → post I J) ∧ (¬ r16 = (0) → p_Mo_followGrant m s0 (nI g) (nI l) post I J)) → p_Mo_obey m (nI b) r16 post I J := fun post q => cls post s0 z1 z2 ⟨fun e => absurd e n8, fun _ => ⟨fun _ => q, fun n => absurd rfl n⟩⟩
      have t9 : ∀ (A' : SI) (post : SI → SJ → Prop), post A' B → p_Md_told_159 (nI m) (nI b) post (nI 9) (nI who) (nI g) (nI l) A' B := fun A' post q => t159 A' post (by decide) (t190 A' post (by decide) q)
      by_cases mb : Mb A g m
      · have r0 : ¬ r16 = 0 := fun e => (hr.mp e) mb
        have m2 : ∀ post : SI → SJ → Prop, ((¬ nI who = nI m → p_Md_told_98 (nI m) (nI b) post (nI 9) (nI who) (nI g) (nI l) A B) ∧ (nI who = nI m → ((¬ (A 16 m) = nI g → p_Md_told_98 (nI m) (nI b) post (nI 9) (nI who) (nI g) (nI l) A B) ∧ ((A 16 m) = nI g → p_Md_told_99 (nI m) (nI b) post (nI 9) (nI who) (nI g) (nI l) (1 : Int32) A B)))) → p_Md_told (nI m) (nI b) post A B := fun post q => m1 post ⟨fun n => absurd rfl n, fun _ => ⟨m, rfl, hm, fun n => absurd mb n, fun _ => ⟨q.1, fun e => ⟨m, rfl, hm, q.2 e⟩⟩⟩⟩
        have jn : ∀ (d : Nat), (d = 1 ∨ d = 2) → (∀ post : SI → SJ → Prop, post (cJoin I m (nI d) (nI l) (nI g)) J → p_Mo_followGrant m s0 (nI g) (nI l) post I J) → (∀ post : SI → SJ → Prop, post (mJoin A m (nI d) (nI l) (nI g)) B → p_Md_told (nI m) (nI b) post A B) → ∃ I' A', go (p_Mo_obey m (nI b) r16) I J I' J ∧ go (p_Md_told (nI m) (nI b)) A B A' B ∧ rMob m I' A' ∧ oM m I I' A A' ∧ A' 3 = A 3 ∧ A' 12 = A 12 ∧ (I' (22 + m) 3 = 0 ↔ A' 12 m = 0 ∨ A' 7 m = 0) := by
          intro d hd q1 q2
          refine ⟨_, _, fun post q => c1 post ⟨fun e => absurd e r0, fun _ => q1 post q⟩, fun post q => q2 post q, join_mob hh hd hg hc ic, oM.join m I A _ _ _, by funext k; simp [mJoin, xu_at], by funext k; simp [mJoin, xu_at], ?_⟩
          simpa [cJoin, mJoin, xu_at] using sn
        have jc : ∀ (d : Int32) (post : SI → SJ → Prop), post (cJoin I m d (nI l) (nI g)) J → p_Mo_join m d (nI l) (nI g) post I J := fun d post q I1 e1 I2 e2 I3 e3 => by
          subst e1; subst e2; subst e3
          exact q
        have jm : ∀ (d : Int32) (post : SI → SJ → Prop), post (mJoin A m d (nI l) (nI g)) B → p_Md_told_142 (nI m) (nI b) post (nI 9) (nI who) (nI g) (nI l) d (nI m) A B := fun d post q => ⟨m, rfl, hm, fun I1 e1 => ⟨m, rfl, hm, fun I2 e2 => ⟨m, rfl, hm, fun I3 e3 => t9 I3 post (by subst e1; subst e2; subst e3; exact q)⟩⟩⟩
        have j127 : ∀ (post : SI → SJ → Prop), post (mJoin A m 2 (nI l) (nI g)) B → p_Md_told_127 (nI m) (nI b) post (nI 9) (nI who) (nI g) (nI l) 0 A B := fun post q => ⟨fun _ => jm 2 post q, fun n => absurd rfl n⟩
        by_cases tk : who = m ∧ A 16 m = nI g
        · have n0 : ¬ s0 = 0 := fun e => (z1.mp e) tk.1
          exact jn 1 (Or.inl rfl) (fun post q => ⟨fun e => absurd e n0, fun _ => ⟨fun n => absurd (h6.trans tk.2) n, fun _ => jc 1 post q⟩⟩) (fun post q => m2 post ⟨fun n => absurd (by rw [tk.1]) n, fun _ => ⟨fun n => absurd tk.2 n, fun _ => ⟨fun _ => ⟨fun e => absurd e (by decide), fun _ => jm 1 post q⟩, fun e => absurd e (by decide)⟩⟩⟩)
        · -- it does not talk
          have m3 : ∀ post : SI → SJ → Prop, p_Md_told_98 (nI m) (nI b) post (nI 9) (nI who) (nI g) (nI l) A B → p_Md_told (nI m) (nI b) post A B := fun post q => m2 post ⟨fun _ => q, fun e => ⟨fun _ => q, fun e2 => absurd ⟨(nI_eq (by omega) (by omega)).mp e, e2⟩ tk⟩⟩
          have c3 : ∀ post : SI → SJ → Prop, p_Mo_followGrant_22 m s0 (nI g) (nI l) post I J → p_Mo_followGrant m s0 (nI g) (nI l) post I J := fun post q => ⟨fun _ => q, fun n => ⟨fun _ => q, fun e => absurd ⟨Classical.byContradiction (fun e2 => n (z1.mpr e2)), h6.symm.trans e⟩ tk⟩⟩
          have m4 : ∀ post : SI → SJ → Prop, ((¬ (A 13 m) = (1 : Int32) → post (mJoin A m 2 (nI l) (nI g)) B) ∧ ((A 13 m) = (1 : Int32) → ((¬ (A 15 m) = nI g → post A B) ∧ ((A 15 m) = nI g → post (mJoin A m 2 (nI l) (nI g)) B)))) → p_Md_told_98 (nI m) (nI b) post (nI 9) (nI who) (nI g) (nI l) A B := fun post q => ⟨fun n => absurd rfl n, fun _ => ⟨m, rfl, hm, fun n => j127 post (q.1 n), fun e => ⟨m, rfl, hm, fun n => t9 A post ((q.2 e).1 n), fun e2 => j127 post ((q.2 e).2 e2)⟩⟩⟩
          rcases h7 with ⟨d0, d1, d2, d3⟩ | ⟨d, gg, hd, hgg, d1, d2, d3, d4, d5, _⟩
          · exact jn 2 (Or.inr rfl) (fun post q => c3 post ⟨fun _ => jc 2 post q, fun e => absurd (d1.symm.trans e) (by decide)⟩) (fun post q => m3 post (m4 post ⟨fun _ => q, fun e => absurd (d0.symm.trans e) (by decide)⟩))
          · rcases hd with rfl | rfl
            · by_cases eg : gg = g
              · subst eg
                exact jn 2 (Or.inr rfl) (fun post q => c3 post ⟨fun n => absurd d2 n, fun _ => ⟨fun n => absurd d5 n, fun _ => jc 2 post q⟩⟩) (fun post q => m3 post (m4 post ⟨fun n => absurd d1 n, fun _ => ⟨fun n => absurd d4 n, fun _ => q⟩⟩))
              · have ne : ¬ nI gg = nI g := fun e => eg ((nI_eq (by omega) (by omega)).mp e)
                exact ⟨I, A, fun post q => c1 post ⟨fun _ => q, fun _ => c3 post ⟨fun n => absurd d2 n, fun _ => ⟨fun _ => q, fun e => absurd (d5.symm.trans e) ne⟩⟩⟩, fun post q => m3 post (m4 post ⟨fun n => absurd d1 n, fun _ => ⟨fun _ => q, fun e => absurd (d4.symm.trans e) ne⟩⟩), hh, oM.refl m I A, rfl, rfl, sn⟩
            · have ne : ¬ nI 2 = (1 : Int32) := by decide
              exact jn 2 (Or.inr rfl) (fun post q => c3 post ⟨fun _ => jc 2 post q, fun e => absurd (d2.symm.trans e) ne⟩) (fun post q => m3 post (m4 post ⟨fun _ => q, fun e => absurd (d1.symm.trans e) ne⟩))
      · exact ⟨I, A, fun post q => c1 post ⟨fun _ => q, fun n => absurd (hr.mpr mb) n⟩, fun post q => m1 post ⟨fun n => absurd rfl n, fun _ => ⟨m, rfl, hm, fun _ => t9 A post q, fun e => absurd e mb⟩⟩, hh, oM.refl m I A, rfl, rfl, sn⟩
    · have n9 : ¬ nI kd = (9 : Int32) := fun e => k9 ((kq 9 (by decide)).mp e)
      by_cases k10 : kd = 10
      · subst k10
        have c1 : ∀ post : SI → SJ → Prop, ((¬ (I (14 + m) 10) = nI g → post I J) ∧ ((I (14 + m) 10) = nI g → post (cIdle I m) J)) → p_Mo_obey m (nI b) r16 post I J := fun post q => cls post s0 z1 z2 ⟨fun e => absurd e n8, fun _ => ⟨fun e => absurd e n9, fun _ => ⟨fun _ => q, fun n => absurd rfl n⟩⟩⟩
        have m2 : ∀ post : SI → SJ → Prop, (((A 13 m) ≤ (0) → post A B) ∧ (¬ (A 13 m) ≤ (0) → ((¬ (A 15 m) = nI g → post A B) ∧ ((A 15 m) = nI g → post (mIdle A m) B)))) → p_Md_told (nI m) (nI b) post A B := fun post q => m1 post (t56 A post (by decide) ⟨fun n => absurd rfl n, fun _ => ⟨m, rfl, hm, fun e => t190 A post (by decide) (q.1 e), fun n => ⟨m, rfl, hm, fun n2 => t190 A post (by decide) ((q.2 n).1 n2), fun e => s_Md_idle hm (t190 _ post (by decide) ((q.2 n).2 e))⟩⟩⟩)
        rcases h7 with ⟨d0, d1, d2, d3⟩ | ⟨d, gg, hd, hgg, d1, d2, d3, d4, d5, _⟩
        · have ng : ∀ q, q < 4 → ¬ (-1 : Int32) = nI q := by decide +kernel
          exact ⟨I, A, fun post q => c1 post ⟨fun _ => q, fun e => absurd (d3.symm.trans e) (ng g hg)⟩, fun post q => m2 post ⟨fun _ => q, fun n => absurd (by rw [d0]; decide) n⟩, hh, oM.refl m I A, rfl, rfl, sn⟩
        · have n13 : ¬ A 13 m ≤ 0 := by
            rw [d1]
            rcases hd with rfl | rfl <;> decide
          by_cases eg : gg = g
          · subst eg
            refine ⟨cIdle I m, mIdle A m, fun post q => c1 post ⟨fun n => absurd d5 n, fun _ => q⟩, fun post q => m2 post ⟨fun e => absurd e n13, fun _ => ⟨fun n => absurd d4 n, fun _ => q⟩⟩, idle_mob hh, oM.idle m I A, by funext k; simp [mIdle, xu_at], by funext k; simp [mIdle, xu_at], ?_⟩
            simpa [cIdle, mIdle, xu_at] using sn
          · have ne : ¬ nI gg = nI g := fun e => eg ((nI_eq (by omega) (by omega)).mp e)
            exact ⟨I, A, fun post q => c1 post ⟨fun _ => q, fun e => absurd (d5.symm.trans e) ne⟩, fun post q => m2 post ⟨fun e => absurd e n13, fun _ => ⟨fun _ => q, fun e => absurd (d4.symm.trans e) ne⟩⟩, hh, oM.refl m I A, rfl, rfl, sn⟩
      · have n10 : ¬ nI kd = (10 : Int32) := fun e => k10 ((kq 10 (by decide)).mp e)
        by_cases k11 : kd = 11
        · subst k11
          have c1 : ∀ post : SI → SJ → Prop, ((s0 = (0) → post I J) ∧ (¬ s0 = (0) → post (cGot I m (((16 : Int32) * nI (b % 512)) + nI (b / 512 % 16))) J)) → p_Mo_obey m (nI b) r16 post I J := fun post q => cls post s0 z1 z2 ⟨fun e => absurd e n8, fun _ => ⟨fun e => absurd e n9, fun _ => ⟨fun e => absurd e n10, fun _ => ⟨fun _ => q, fun n => absurd rfl n⟩⟩⟩⟩
          by_cases ew : who = m
          · have n0 : ¬ s0 = 0 := fun e => (z1.mp e) ew
            refine ⟨cGot I m (((16 : Int32) * nI (b % 512)) + nI (b / 512 % 16)), mGot A m (((16 : Int32) * nI (b % 512)) + nI (b / 512 % 16)), fun post q => c1 post ⟨fun e => absurd e n0, fun _ => q⟩, fun post q => m1 post (t56 A post (by decide) (t159 A post (by decide) ⟨fun n => absurd rfl n, fun _ => ⟨fun n => absurd (by rw [ew]) n, fun _ => ⟨m, rfl, hm, m, rfl, hm, fun I7 e7 => ⟨m, rfl, hm, fun I9 e9 => ?_⟩⟩⟩⟩)), got_mob hh _, oM.got m I A _ _, by funext k; simp [mGot, xu_at], by funext k; simp [mGot, xu_at], ?_⟩
            · subst e7
              rw [er, ← eo] at e9
              subst e9
              exact q
            · simpa [cGot, mGot, xu_at] using sn
          · have n0 : s0 = 0 := z1.mpr ew
            exact ⟨I, A, fun post q => c1 post ⟨fun _ => q, fun n => absurd n0 n⟩, fun post q => m1 post (t56 A post (by decide) (t159 A post (by decide) ⟨fun n => absurd rfl n, fun _ => ⟨fun _ => q, fun e => absurd ((nI_eq (by omega) (by omega)).mp e) ew⟩⟩)), hh, oM.refl m I A, rfl, rfl, sn⟩
        · have n11 : ¬ nI kd = (11 : Int32) := fun e => k11 ((kq 11 (by decide)).mp e)
          exact ⟨I, A, fun post q => cls post s0 z1 z2 ⟨fun e => absurd e n8, fun _ => ⟨fun e => absurd e n9, fun _ => ⟨fun e => absurd e n10, fun _ => ⟨fun e => absurd e n11, fun _ => q⟩⟩⟩⟩, fun post q => m1 post (t56 A post k9 (t159 A post k10 (t190 A post k11 q))), hh, oM.refl m I A, rfl, rfl, sn⟩
