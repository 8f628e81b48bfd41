/-! the relation: what is told of a mobile -/
def rTell (m : Nat) (I A : SI) : Prop :=
  (I (14 + m) 6 = A 3 m) ∧ (I (14 + m) 8 = A 13 m) ∧ (A 13 m = 0 → I (14 + m) 9 = -1 ∧ I (14 + m) 10 = -1) ∧ (¬ A 13 m = 0 → I (14 + m) 9 = A 14 m ∧ I (14 + m) 10 = A 15 m) ∧ (I (14 + m) 7 = A 16 m) ∧ ((xsu (I (22 + m) 0) (16 : Int32)) &&& (15 : Int32) = A 7 m) ∧ (I (22 + m) 1 = A 10 m) ∧ (I (22 + m) 2 = A 11 m) ∧ (I (14 + m) 11 = A 20 m) ∧ (I (14 + m) 12 = A 21 m) ∧ (I (14 + m) 13 = A 22 m) ∧ (I (14 + m) 14 = A 23 m) ∧ (I (14 + m) 3 = A 19 m) ∧ (I 8 m = A 24 m)
theorem t_mobile {I : SI} {J : SJ} {A : SI} {B : SJ} (hR : ∀ m, m < 8 → rTell m I A) (p1 p2 : Int32) : same1 (p_TC_mobile p1 p2) (p_Md_mobile p1 p2) I J A B := by
  rcases ix_all p1 (n := 8) (by decide) with h | ⟨m, hm, rfl⟩
  · exact ⟨-1, fun post k => ix_C0 h ⟨fun hc => absurd rfl hc, fun _ => k⟩, fun post k I1 e1 => by
      subst e1
      exact ix_M0 h ⟨fun hc => absurd rfl hc, fun _ => k⟩⟩
  · obtain ⟨r_cell, r_state, r_idle, r_busy, r_presses, r_kind, r_tries, r_delay, r_heard, r_heardLast, r_got, r_gotLast, r_draws, r_place⟩ := hR m hm
    have cls : ∀ post : Int32 → SI → SJ → Prop, ¬ p2 = (13 : Int32) → p_Mo_tell m p2 post I J → p_TC_mobile (nI m) p2 post I J := fun post hn k => ix_C1 hm (by decide) ⟨fun _ => ⟨fun _ => ⟨m, rfl, hm, k⟩, fun e => absurd e hn⟩, fun hc => absurd hc (by decide)⟩
    have a0 : ∀ o, o ≠ 0 → xu A 0 0 0 o = A o := fun o ho => a0_ne A ho
    rcases ix_all p2 (n := 14) (by decide) with h | ⟨w, hw, rfl⟩
    · have no : ∀ j, j < 14 → ¬ p2 = nI j := fun j hj e => by
        subst e
        rcases h with h | h
        · exact nI_pos (by omega) h
        · exact nI_ge hj (by decide) h
      refine ⟨-1, fun post k => cls post (no 13 (by decide)) ?_, fun post k I1 e1 => ?_⟩
      · exact ⟨fun e => absurd e (no 0 (by decide)), fun _ => ⟨fun e => absurd e (no 1 (by decide)), fun _ => ⟨fun e => absurd e (no 2 (by decide)), fun _ => ⟨fun e => absurd e (no 3 (by decide)), fun _ => ⟨fun e => absurd e (no 4 (by decide)), fun _ => ⟨fun e => absurd e (no 5 (by decide)), fun _ => ⟨fun e => absurd e (no 6 (by decide)), fun _ => ⟨fun e => absurd e (no 7 (by decide)), fun _ => ⟨fun e => absurd e (no 8 (by decide)), fun _ => ⟨fun e => absurd e (no 9 (by decide)), fun _ => ⟨fun e => absurd e (no 10 (by decide)), fun _ => ⟨fun e => absurd e (no 11 (by decide)), fun _ => ⟨fun e => absurd e (no 12 (by decide)), fun _ => k⟩⟩⟩⟩⟩⟩⟩⟩⟩⟩⟩⟩⟩
      · subst e1
        exact ix_M1 hm (by decide) ⟨fun _ => ⟨fun e => absurd e (no 0 (by decide)), fun _ => ⟨fun e => absurd e (no 1 (by decide)), fun _ => ⟨fun e => absurd e (no 2 (by decide)), fun _ => ⟨fun e => absurd e (no 3 (by decide)), fun _ => ⟨fun e => absurd e (no 4 (by decide)), fun _ => ⟨fun e => absurd e (no 5 (by decide)), fun _ => ⟨fun e => absurd e (no 6 (by decide)), fun _ => ⟨fun e => absurd e (no 7 (by decide)), fun _ => ⟨fun e => absurd e (no 8 (by decide)), fun _ => ⟨fun e => absurd e (no 9 (by decide)), fun _ => ⟨fun e => absurd e (no 10 (by decide)), fun _ => ⟨fun e => absurd e (no 11 (by decide)), fun _ => ⟨fun e => absurd e (no 12 (by decide)), fun _ => ⟨fun e => absurd e (no 13 (by decide)), fun _ => k⟩⟩⟩⟩⟩⟩⟩⟩⟩⟩⟩⟩⟩⟩, fun hc => absurd hc (by decide)⟩
    · have hw14 : w = 0 ∨ w = 1 ∨ w = 2 ∨ w = 3 ∨ w = 4 ∨ w = 5 ∨ w = 6 ∨ w = 7 ∨ w = 8 ∨ w = 9 ∨ w = 10 ∨ w = 11 ∨ w = 12 ∨ w = 13 := by omega
      rcases hw14 with rfl | rfl | rfl | rfl | rfl | rfl | rfl | rfl | rfl | rfl | rfl | rfl | rfl | rfl
      · refine ⟨A 3 m, fun post k => cls post (by decide) ⟨fun _ => ?_, fun e => absurd rfl e⟩, fun post k I1 e1 => ?_⟩
        · rw [r_cell]
          exact k
        · subst e1
          refine ix_M1 hm (by decide) ⟨fun _ => ⟨fun _ => ⟨m, rfl, hm, ?_⟩, fun e => absurd rfl e⟩, fun hc => absurd hc (by decide)⟩
          rw [a0 3 (by decide)]
          exact k
      · refine ⟨A 13 m, fun post k => cls post (by decide) ⟨fun e => absurd e (by decide), fun _ => ⟨fun _ => ?_, fun e => absurd rfl e⟩⟩, fun post k I1 e1 => ?_⟩
        · rw [r_state]
          exact k
        · subst e1
          refine ix_M1 hm (by decide) ⟨fun _ => ⟨fun e => absurd e (by decide), fun _ => ⟨fun _ => ⟨m, rfl, hm, ?_⟩, fun e => absurd rfl e⟩⟩, fun hc => absurd hc (by decide)⟩
          rw [a0 13 (by decide)]
          exact k
      · by_cases z : A 13 m = 0
        · refine ⟨-1, fun post k => cls post (by decide) ⟨fun e => absurd e (by decide), fun _ => ⟨fun e => absurd e (by decide), fun _ => ⟨fun _ => ?_, fun e => absurd rfl e⟩⟩⟩, fun post k I1 e1 => ?_⟩
          · rw [(r_idle z).1]
            exact k
          · subst e1
            refine ix_M1 hm (by decide) ⟨fun _ => ⟨fun e => absurd e (by decide), fun _ => ⟨fun e => absurd e (by decide), fun _ => ⟨fun _ => ⟨m, rfl, hm, fun hz => ?_, fun _ => ?_⟩, fun e => absurd rfl e⟩⟩⟩, fun hc => absurd hc (by decide)⟩
            · rw [a0 13 (by decide)] at hz
              exact absurd z hz
            · exact k
        · refine ⟨A 14 m, fun post k => cls post (by decide) ⟨fun e => absurd e (by decide), fun _ => ⟨fun e => absurd e (by decide), fun _ => ⟨fun _ => ?_, fun e => absurd rfl e⟩⟩⟩, fun post k I1 e1 => ?_⟩
          · rw [(r_busy z).1]
            exact k
          · subst e1
            refine ix_M1 hm (by decide) ⟨fun _ => ⟨fun e => absurd e (by decide), fun _ => ⟨fun e => absurd e (by decide), fun _ => ⟨fun _ => ⟨m, rfl, hm, fun _ => ⟨m, rfl, hm, ?_⟩, fun hz => ?_⟩, fun e => absurd rfl e⟩⟩⟩, fun hc => absurd hc (by decide)⟩
            · rw [a0 14 (by decide)]
              exact k
            · rw [a0 13 (by decide)] at hz
              exact absurd hz z
      · by_cases z : A 13 m = 0
        · refine ⟨-1, fun post k => cls post (by decide) ⟨fun e => absurd e (by decide), fun _ => ⟨fun e => absurd e (by decide), fun _ => ⟨fun e => absurd e (by decide), fun _ => ⟨fun _ => ?_, fun e => absurd rfl e⟩⟩⟩⟩, fun post k I1 e1 => ?_⟩
          · rw [(r_idle z).2]
            exact k
          · subst e1
            refine ix_M1 hm (by decide) ⟨fun _ => ⟨fun e => absurd e (by decide), fun _ => ⟨fun e => absurd e (by decide), fun _ => ⟨fun e => absurd e (by decide), fun _ => ⟨fun _ => ⟨m, rfl, hm, fun hz => ?_, fun _ => ?_⟩, fun e => absurd rfl e⟩⟩⟩⟩, fun hc => absurd hc (by decide)⟩
            · rw [a0 13 (by decide)] at hz
              exact absurd z hz
            · exact k
        · refine ⟨A 15 m, fun post k => cls post (by decide) ⟨fun e => absurd e (by decide), fun _ => ⟨fun e => absurd e (by decide), fun _ => ⟨fun e => absurd e (by decide), fun _ => ⟨fun _ => ?_, fun e => absurd rfl e⟩⟩⟩⟩, fun post k I1 e1 => ?_⟩
          · rw [(r_busy z).2]
            exact k
          · subst e1
            refine ix_M1 hm (by decide) ⟨fun _ => ⟨fun e => absurd e (by decide), fun _ => ⟨fun e => absurd e (by decide), fun _ => ⟨fun e => absurd e (by decide), fun _ => ⟨fun _ => ⟨m, rfl, hm, fun _ => ⟨m, rfl, hm, ?_⟩, fun hz => ?_⟩, fun e => absurd rfl e⟩⟩⟩⟩, fun hc => absurd hc (by decide)⟩
            · rw [a0 15 (by decide)]
              exact k
            · rw [a0 13 (by decide)] at hz
              exact absurd hz z
      · refine ⟨A 16 m, fun post k => cls post (by decide) ⟨fun e => absurd e (by decide), fun _ => ⟨fun e => absurd e (by decide), fun _ => ⟨fun e => absurd e (by decide), fun _ => ⟨fun e => absurd e (by decide), fun _ => ⟨fun _ => ?_, fun e => absurd rfl e⟩⟩⟩⟩⟩, fun post k I1 e1 => ?_⟩
        · rw [r_presses]
          exact k
        · subst e1
          refine ix_M1 hm (by decide) ⟨fun _ => ⟨fun e => absurd e (by decide), fun _ => ⟨fun e => absurd e (by decide), fun _ => ⟨fun e => absurd e (by decide), fun _ => ⟨fun e => absurd e (by decide), fun _ => ⟨fun _ => ⟨m, rfl, hm, ?_⟩, fun e => absurd rfl e⟩⟩⟩⟩⟩, fun hc => absurd hc (by decide)⟩
          rw [a0 16 (by decide)]
          exact k
      · refine ⟨A 7 m, fun post k => cls post (by decide) ⟨fun e => absurd e (by decide), fun _ => ⟨fun e => absurd e (by decide), fun _ => ⟨fun e => absurd e (by decide), fun _ => ⟨fun e => absurd e (by decide), fun _ => ⟨fun e => absurd e (by decide), fun _ => ⟨fun _ => ?_, fun e => absurd rfl e⟩⟩⟩⟩⟩⟩, fun post k I1 e1 => ?_⟩
        · show post ((xsu (I (22 + m) 0) (16 : Int32)) &&& (15 : Int32)) I J
          rw [r_kind]
          exact k
        · subst e1
          refine ix_M1 hm (by decide) ⟨fun _ => ⟨fun e => absurd e (by decide), fun _ => ⟨fun e => absurd e (by decide), fun _ => ⟨fun e => absurd e (by decide), fun _ => ⟨fun e => absurd e (by decide), fun _ => ⟨fun e => absurd e (by decide), fun _ => ⟨fun _ => ⟨m, rfl, hm, ?_⟩, fun e => absurd rfl e⟩⟩⟩⟩⟩⟩, fun hc => absurd hc (by decide)⟩
          rw [a0 7 (by decide)]
          exact k
      · refine ⟨A 10 m, fun post k => cls post (by decide) ⟨fun e => absurd e (by decide), fun _ => ⟨fun e => absurd e (by decide), fun _ => ⟨fun e => absurd e (by decide), fun _ => ⟨fun e => absurd e (by decide), fun _ => ⟨fun e => absurd e (by decide), fun _ => ⟨fun e => absurd e (by decide), fun _ => ⟨fun _ => ?_, fun e => absurd rfl e⟩⟩⟩⟩⟩⟩⟩, fun post k I1 e1 => ?_⟩
        · rw [r_tries]
          exact k
        · subst e1
          refine ix_M1 hm (by decide) ⟨fun _ => ⟨fun e => absurd e (by decide), fun _ => ⟨fun e => absurd e (by decide), fun _ => ⟨fun e => absurd e (by decide), fun _ => ⟨fun e => absurd e (by decide), fun _ => ⟨fun e => absurd e (by decide), fun _ => ⟨fun e => absurd e (by decide), fun _ => ⟨fun _ => ⟨m, rfl, hm, ?_⟩, fun e => absurd rfl e⟩⟩⟩⟩⟩⟩⟩, fun hc => absurd hc (by decide)⟩
          rw [a0 10 (by decide)]
          exact k
      · refine ⟨A 11 m, fun post k => cls post (by decide) ⟨fun e => absurd e (by decide), fun _ => ⟨fun e => absurd e (by decide), fun _ => ⟨fun e => absurd e (by decide), fun _ => ⟨fun e => absurd e (by decide), fun _ => ⟨fun e => absurd e (by decide), fun _ => ⟨fun e => absurd e (by decide), fun _ => ⟨fun e => absurd e (by decide), fun _ => ⟨fun _ => ?_, fun e => absurd rfl e⟩⟩⟩⟩⟩⟩⟩⟩, fun post k I1 e1 => ?_⟩
        · rw [r_delay]
          exact k
        · subst e1
          refine ix_M1 hm (by decide) ⟨fun _ => ⟨fun e => absurd e (by decide), fun _ => ⟨fun e => absurd e (by decide), fun _ => ⟨fun e => absurd e (by decide), fun _ => ⟨fun e => absurd e (by decide), fun _ => ⟨fun e => absurd e (by decide), fun _ => ⟨fun e => absurd e (by decide), fun _ => ⟨fun e => absurd e (by decide), fun _ => ⟨fun _ => ⟨m, rfl, hm, ?_⟩, fun e => absurd rfl e⟩⟩⟩⟩⟩⟩⟩⟩, fun hc => absurd hc (by decide)⟩
          rw [a0 11 (by decide)]
          exact k
      · refine ⟨A 20 m, fun post k => cls post (by decide) ⟨fun e => absurd e (by decide), fun _ => ⟨fun e => absurd e (by decide), fun _ => ⟨fun e => absurd e (by decide), fun _ => ⟨fun e => absurd e (by decide), fun _ => ⟨fun e => absurd e (by decide), fun _ => ⟨fun e => absurd e (by decide), fun _ => ⟨fun e => absurd e (by decide), fun _ => ⟨fun e => absurd e (by decide), fun _ => ⟨fun _ => ?_, fun e => absurd rfl e⟩⟩⟩⟩⟩⟩⟩⟩⟩, fun post k I1 e1 => ?_⟩
        · rw [r_heard]
          exact k
        · subst e1
          refine ix_M1 hm (by decide) ⟨fun _ => ⟨fun e => absurd e (by decide), fun _ => ⟨fun e => absurd e (by decide), fun _ => ⟨fun e => absurd e (by decide), fun _ => ⟨fun e => absurd e (by decide), fun _ => ⟨fun e => absurd e (by decide), fun _ => ⟨fun e => absurd e (by decide), fun _ => ⟨fun e => absurd e (by decide), fun _ => ⟨fun e => absurd e (by decide), fun _ => ⟨fun _ => ⟨m, rfl, hm, ?_⟩, fun e => absurd rfl e⟩⟩⟩⟩⟩⟩⟩⟩⟩, fun hc => absurd hc (by decide)⟩
          rw [a0 20 (by decide)]
          exact k
      · refine ⟨A 21 m, fun post k => cls post (by decide) ⟨fun e => absurd e (by decide), fun _ => ⟨fun e => absurd e (by decide), fun _ => ⟨fun e => absurd e (by decide), fun _ => ⟨fun e => absurd e (by decide), fun _ => ⟨fun e => absurd e (by decide), fun _ => ⟨fun e => absurd e (by decide), fun _ => ⟨fun e => absurd e (by decide), fun _ => ⟨fun e => absurd e (by decide), fun _ => ⟨fun e => absurd e (by decide), fun _ => ⟨fun _ => ?_, fun e => absurd rfl e⟩⟩⟩⟩⟩⟩⟩⟩⟩⟩, fun post k I1 e1 => ?_⟩
        · rw [r_heardLast]
          exact k
        · subst e1
          refine ix_M1 hm (by decide) ⟨fun _ => ⟨fun e => absurd e (by decide), fun _ => ⟨fun e => absurd e (by decide), fun _ => ⟨fun e => absurd e (by decide), fun _ => ⟨fun e => absurd e (by decide), fun _ => ⟨fun e => absurd e (by decide), fun _ => ⟨fun e => absurd e (by decide), fun _ => ⟨fun e => absurd e (by decide), fun _ => ⟨fun e => absurd e (by decide), fun _ => ⟨fun e => absurd e (by decide), fun _ => ⟨fun _ => ⟨m, rfl, hm, ?_⟩, fun e => absurd rfl e⟩⟩⟩⟩⟩⟩⟩⟩⟩⟩, fun hc => absurd hc (by decide)⟩
          rw [a0 21 (by decide)]
          exact k
      · refine ⟨A 22 m, fun post k => cls post (by decide) ⟨fun e => absurd e (by decide), fun _ => ⟨fun e => absurd e (by decide), fun _ => ⟨fun e => absurd e (by decide), fun _ => ⟨fun e => absurd e (by decide), fun _ => ⟨fun e => absurd e (by decide), fun _ => ⟨fun e => absurd e (by decide), fun _ => ⟨fun e => absurd e (by decide), fun _ => ⟨fun e => absurd e (by decide), fun _ => ⟨fun e => absurd e (by decide), fun _ => ⟨fun e => absurd e (by decide), fun _ => ⟨fun _ => ?_, fun e => absurd rfl e⟩⟩⟩⟩⟩⟩⟩⟩⟩⟩⟩, fun post k I1 e1 => ?_⟩
        · rw [r_got]
          exact k
        · subst e1
          refine ix_M1 hm (by decide) ⟨fun _ => ⟨fun e => absurd e (by decide), fun _ => ⟨fun e => absurd e (by decide), fun _ => ⟨fun e => absurd e (by decide), fun _ => ⟨fun e => absurd e (by decide), fun _ => ⟨fun e => absurd e (by decide), fun _ => ⟨fun e => absurd e (by decide), fun _ => ⟨fun e => absurd e (by decide), fun _ => ⟨fun e => absurd e (by decide), fun _ => ⟨fun e => absurd e (by decide), fun _ => ⟨fun e => absurd e (by decide), fun _ => ⟨fun _ => ⟨m, rfl, hm, ?_⟩, fun e => absurd rfl e⟩⟩⟩⟩⟩⟩⟩⟩⟩⟩⟩, fun hc => absurd hc (by decide)⟩
          rw [a0 22 (by decide)]
          exact k
      · refine ⟨A 23 m, fun post k => cls post (by decide) ⟨fun e => absurd e (by decide), fun _ => ⟨fun e => absurd e (by decide), fun _ => ⟨fun e => absurd e (by decide), fun _ => ⟨fun e => absurd e (by decide), fun _ => ⟨fun e => absurd e (by decide), fun _ => ⟨fun e => absurd e (by decide), fun _ => ⟨fun e => absurd e (by decide), fun _ => ⟨fun e => absurd e (by decide), fun _ => ⟨fun e => absurd e (by decide), fun _ => ⟨fun e => absurd e (by decide), fun _ => ⟨fun e => absurd e (by decide), fun _ => ⟨fun _ => ?_, fun e => absurd rfl e⟩⟩⟩⟩⟩⟩⟩⟩⟩⟩⟩⟩, fun post k I1 e1 => ?_⟩
        · rw [r_gotLast]
          exact k
        · subst e1
          refine ix_M1 hm (by decide) ⟨fun _ => ⟨fun e => absurd e (by decide), fun _ => ⟨fun e => absurd e (by decide), fun _ => ⟨fun e => absurd e (by decide), fun _ => ⟨fun e => absurd e (by decide), fun _ => ⟨fun e => absurd e (by decide), fun _ => ⟨fun e => absurd e (by decide), fun _ => ⟨fun e => absurd e (by decide), fun _ => ⟨fun e => absurd e (by decide), fun _ => ⟨fun e => absurd e (by decide), fun _ => ⟨fun e => absurd e (by decide), fun _ => ⟨fun e => absurd e (by decide), fun _ => ⟨fun _ => ⟨m, rfl, hm, ?_⟩, fun e => absurd rfl e⟩⟩⟩⟩⟩⟩⟩⟩⟩⟩⟩⟩, fun hc => absurd hc (by decide)⟩
          rw [a0 23 (by decide)]
          exact k
      · refine ⟨A 19 m, fun post k => cls post (by decide) ⟨fun e => absurd e (by decide), fun _ => ⟨fun e => absurd e (by decide), fun _ => ⟨fun e => absurd e (by decide), fun _ => ⟨fun e => absurd e (by decide), fun _ => ⟨fun e => absurd e (by decide), fun _ => ⟨fun e => absurd e (by decide), fun _ => ⟨fun e => absurd e (by decide), fun _ => ⟨fun e => absurd e (by decide), fun _ => ⟨fun e => absurd e (by decide), fun _ => ⟨fun e => absurd e (by decide), fun _ => ⟨fun e => absurd e (by decide), fun _ => ⟨fun e => absurd e (by decide), fun _ => ⟨fun _ => ?_, fun e => absurd rfl e⟩⟩⟩⟩⟩⟩⟩⟩⟩⟩⟩⟩⟩, fun post k I1 e1 => ?_⟩
        · rw [r_draws]
          exact k
        · subst e1
          refine ix_M1 hm (by decide) ⟨fun _ => ⟨fun e => absurd e (by decide), fun _ => ⟨fun e => absurd e (by decide), fun _ => ⟨fun e => absurd e (by decide), fun _ => ⟨fun e => absurd e (by decide), fun _ => ⟨fun e => absurd e (by decide), fun _ => ⟨fun e => absurd e (by decide), fun _ => ⟨fun e => absurd e (by decide), fun _ => ⟨fun e => absurd e (by decide), fun _ => ⟨fun e => absurd e (by decide), fun _ => ⟨fun e => absurd e (by decide), fun _ => ⟨fun e => absurd e (by decide), fun _ => ⟨fun e => absurd e (by decide), fun _ => ⟨fun _ => ⟨m, rfl, hm, ?_⟩, fun e => absurd rfl e⟩⟩⟩⟩⟩⟩⟩⟩⟩⟩⟩⟩⟩, fun hc => absurd hc (by decide)⟩
          rw [a0 19 (by decide)]
          exact k
      · refine ⟨A 24 m, fun post k => ix_C1 hm (by decide) ⟨fun _ => ⟨fun e => absurd rfl e, fun _ => ⟨m, rfl, hm, ?_⟩⟩, fun hc => absurd hc (by decide)⟩, fun post k I1 e1 => ?_⟩
        · rw [r_place]
          exact k
        · subst e1
          refine ix_M1 hm (by decide) ⟨fun _ => ⟨fun e => absurd e (by decide), fun _ => ⟨fun e => absurd e (by decide), fun _ => ⟨fun e => absurd e (by decide), fun _ => ⟨fun e => absurd e (by decide), fun _ => ⟨fun e => absurd e (by decide), fun _ => ⟨fun e => absurd e (by decide), fun _ => ⟨fun e => absurd e (by decide), fun _ => ⟨fun e => absurd e (by decide), fun _ => ⟨fun e => absurd e (by decide), fun _ => ⟨fun e => absurd e (by decide), fun _ => ⟨fun e => absurd e (by decide), fun _ => ⟨fun e => absurd e (by decide), fun _ => ⟨fun e => absurd e (by decide), fun _ => ⟨fun _ => ⟨m, rfl, hm, ?_⟩, fun e => absurd rfl e⟩⟩⟩⟩⟩⟩⟩⟩⟩⟩⟩⟩⟩⟩, fun hc => absurd hc (by decide)⟩
          rw [a0 24 (by decide)]
          exact k
