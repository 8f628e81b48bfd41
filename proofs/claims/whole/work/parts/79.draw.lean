/-! a draw -/
theorem le15 {p : Int32} (h : nI 16 ≤ p) : ¬ p ≤ (15 : Int32) := by
  intro h2
  rw [Int32.le_iff_toInt_le] at h h2
  have e1 : (15 : Int32).toInt = 15 := by decide
  have e2 : (nI 16).toInt = 16 := by decide
  omega
theorem d_draw {I : SI} {J : SJ} {A : SI} {B : SJ} (p1 p2 : Int32) (hd : ∀ m, m < 8 → ∃ n, n ≤ 8 ∧ I (14 + m) 3 = nI n ∧ A 19 m = nI n) : thr (p_TC_draw p1 p2) (p_Md_draw p1 p2) I J A B 1 1 ∨ thr (p_TC_draw p1 p2) (p_Md_draw p1 p2) I J A B 3 2 ∨ thr (p_TC_draw p1 p2) (p_Md_draw p1 p2) I J A B 2 3 ∨ ∃ m n d, m < 8 ∧ n < 8 ∧ d < 16 ∧ p1 = nI m ∧ p2 = nI d ∧ I (14 + m) 3 = nI n ∧ A 19 m = nI n ∧ dbl (p_TC_draw p1 p2) (p_Md_draw p1 p2) I J A B (xu (xu I (30 + m) n p2) (14 + m) 3 (nI (n + 1))) J (xu (xu (xu A 0 0 0) 18 (8 * m + n) p2) 19 m (nI (n + 1))) B := by
  have bad : ∀ (c : Int32) (post : SI → SJ → Prop), ¬ c = 0 → post (xu A 0 0 c) B → p_Md_draw_43 p1 p2 post c A B := by
    intro c post hc0 k I4 e4
    subst e4
    exact ⟨fun _ => k, fun hc => absurd ((xu_s A 0 0 c).symm.trans hc) hc0⟩
  rcases ix_all p1 (n := 8) (by decide) with h | ⟨m, hm, rfl⟩
  · exact Or.inl ⟨fun post exc k => ne_0 h k, fun post k => ix_M0 h ⟨fun hc => absurd rfl hc, fun _ => bad 1 post (by decide) k⟩⟩
  · obtain ⟨n, hn, n1, n2⟩ := hd m hm
    rcases ix_all p2 (n := 16) (by decide) with h | ⟨d, hdd, rfl⟩
    · refine Or.inr (Or.inl ⟨fun post exc k => ne_1 hm (by decide) ⟨fun _ => k, fun h0 => ⟨fun h15 => ?_, fun _ => k⟩⟩, fun post k => ix_M1 hm (by decide) ⟨fun _ => ix_M0 h ⟨fun hc => absurd rfl hc, fun _ => bad 2 post (by decide) k⟩, fun hc => absurd hc (by decide)⟩⟩)
      exact absurd h15 (le15 (h.resolve_left h0))
    · have d15 : nI d ≤ (15 : Int32) := nI_le (a := d) (b := 15) (by omega) (by decide)
      by_cases h8 : n = 8
      · subst h8
        refine Or.inr (Or.inr (Or.inl ⟨fun post exc k => ne_1 hm (by decide) ⟨fun h0 => absurd h0 (nI_pos (by omega)), fun _ => ⟨fun _ => ⟨m, rfl, hm, fun _ => ?_, fun h8 => ?_⟩, fun hc => absurd d15 hc⟩⟩, fun post k => ix_M1 hm (by decide) ⟨fun _ => ix_M1 hdd (by decide) ⟨fun _ => ⟨m, rfl, hm, fun hc => absurd n2 hc, fun _ => bad 3 post (by decide) k⟩, fun hc => absurd hc (by decide)⟩, fun hc => absurd hc (by decide)⟩⟩))
        · unfold pp_Mo_addDraw
          rw [n1]
          exact ⟨fun hc => absurd hc (by decide), fun _ => ⟨fun hc => absurd rfl hc, fun _ => k⟩⟩
        · rw [n1] at h8
          exact absurd (by decide) h8
      · have hn8 : n < 8 := by omega
        refine Or.inr (Or.inr (Or.inr ⟨m, n, d, hm, hn8, hdd, rfl, rfl, n1, n2, fun post exc k => ne_1 hm (by decide) ⟨fun h0 => absurd h0 (nI_pos (by omega)), fun _ => ⟨fun _ => ⟨m, rfl, hm, fun h8 => ?_, fun _ => ?_⟩, fun hc => absurd d15 hc⟩⟩, fun post k => ix_M1 hm (by decide) ⟨fun _ => ix_M1 hdd (by decide) ⟨fun _ => ⟨m, rfl, hm, fun _ => ?_, fun hc => ?_⟩, fun hc => absurd hc (by decide)⟩, fun hc => absurd hc (by decide)⟩⟩))
        · rw [n1] at h8
          exact absurd h8 (nI_ge hn8 (by decide))
        · refine ⟨fun _ => ⟨n, n1, hn8, fun I2 e2 I3 e3 => ⟨fun _ => ?_, fun hc => absurd hc (by decide)⟩⟩, fun hc => ?_⟩
          · subst e2
            rw [xu_o I _ _ (show 14 + m ≠ 30 + m by omega), n1, nI_1] at e3
            subst e3
            exact k
          · rw [n1] at hc
            exact absurd (nI_lt hn8 (by decide)) hc
        · intro I8 e8
          subst e8
          refine ⟨fun hc => absurd (xu_s A 0 0 0) hc, fun _ => ⟨m, rfl, hm, 8 * m + n, ?_, by omega, fun I11 e11 => ⟨m, rfl, hm, m, rfl, hm, fun I14 e14 => ?_⟩⟩⟩
          · rw [a0_ne A (by decide), n2, show (8 : Int32) * nI m = nI (8 * m) from pk_mul 8 m, nI_add]
          · subst e11
            rw [xu_o _ _ _ (by decide), a0_ne A (by decide), n2, nI_1] at e14
            subst e14
            exact k
        · rw [n2] at hc
          exact absurd ((nI_eq (b := 8) (by omega) (by decide)).mp hc) h8
