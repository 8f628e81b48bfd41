/-! a move, a release -/
def cPut (I : SI) (m : Nat) (b : Int32) : SI := xu (xu (xu (xu I (22 + m) 0 b) (22 + m) 1 0) (22 + m) 2 0) (22 + m) 3 0
def cIdle (I : SI) (m : Nat) : SI := xu (xu (xu I (14 + m) 8 0) (14 + m) 9 (-1)) (14 + m) 10 (-1)
def mNo (A : SI) (m : Nat) : SI := xu (xu (xu A 7 m 0) 10 m 0) 11 m 0
def mIdle (A : SI) (m : Nat) : SI := xu A 13 m 0
theorem s_Me_put {m : Nat} {b : Int32} {post : SI → SJ → Prop} {I : SI} {J : SJ} (h : post (cPut I m b) J) : p_Me_put m b post I J := by
  intro I1 e1 I2 e2 I3 e3 I4 e4
  subst e1; subst e2; subst e3; subst e4
  exact h
theorem s_Me_drop {m : Nat} {post : SI → SJ → Prop} {I : SI} {J : SJ} (h : post (cPut I m 0) J) : p_Me_drop m post I J := s_Me_put h
theorem s_Mo_turnIdle {m : Nat} {post : SI → SJ → Prop} {I : SI} {J : SJ} (h : post (cIdle I m) J) : p_Mo_turnIdle m post I J := by
  intro I1 e1 I2 e2 I3 e3
  subst e1; subst e2; subst e3
  exact h
theorem s_Md_noMessage {m : Nat} (hm : m < 8) {post : SI → SJ → Prop} {A : SI} {B : SJ} (h : post (mNo A m) B) : p_Md_noMessage (nI m) post A B := by
  refine ⟨m, rfl, hm, fun I2 e2 => ⟨m, rfl, hm, fun I4 e4 => ⟨m, rfl, hm, fun I6 e6 => ?_⟩⟩⟩
  subst e2; subst e4; subst e6
  exact h
theorem s_Md_idle {m : Nat} (hm : m < 8) {post : SI → SJ → Prop} {A : SI} {B : SJ} (h : post (mIdle A m) B) : p_Md_idle (nI m) post A B := by
  refine ⟨m, rfl, hm, fun I2 e2 => ?_⟩
  subst e2
  exact h
theorem m1_lt {p : Int32} (h0 : p < 0) (h1 : ¬ p = -1) : p < -1 := by
  rw [Int32.lt_iff_toInt_lt] at h0 ⊢
  have e1 : (-1 : Int32).toInt = -1 := by decide
  have e0 : (0 : Int32).toInt = 0 := by decide
  have : ¬ p.toInt = (-1 : Int32).toInt := fun e => h1 (Int32.toInt_inj.mp e)
  omega
theorem d_move {I : SI} {J : SJ} {A : SI} {B : SJ} (p1 p2 : Int32) : thr (p_TC_move p1 p2) (p_Md_move p1 p2) I J A B 1 1 ∨ ∃ m, m < 8 ∧ p1 = nI m ∧ (p2 = -1 ∨ ∃ c, c < 3 ∧ p2 = nI c) ∧ dbl (p_TC_move p1 p2) (p_Md_move p1 p2) I J A B (cIdle (xu (cPut (xu I (14 + m) 6 p2) m 0) (14 + m) 7 (-1)) m) J (mIdle (xu (mNo (xu (xu A 0 0 0) 3 m p2) m) 16 m (-1)) m) B := by
  have bad : ∀ post : SI → SJ → Prop, post (xu A 0 0 1) B → p_Md_move_24 p1 p2 post A B := by
    intro post k I4 e4
    subst e4
    exact ⟨fun _ => k, fun hc => absurd ((xu_s A 0 0 1).symm.trans hc) (by decide)⟩
  rcases ix_all p1 (n := 8) (by decide) with h | ⟨m, hm, rfl⟩
  · exact Or.inl ⟨fun post exc k => ne_0 h k, fun post k => ix_M0 h ⟨fun _ => bad post k, fun hc => absurd rfl hc⟩⟩
  · have good : ∀ post : SI → SJ → Prop, post (mIdle (xu (mNo (xu (xu A 0 0 0) 3 m p2) m) 16 m (-1)) m) B → p_Md_move_25 (nI m) p2 post 0 A B := by
      intro post k I4 e4
      subst e4
      refine ⟨fun hc => absurd (xu_s A 0 0 0) hc, fun _ => ⟨m, rfl, hm, fun I6 e6 => s_Md_noMessage hm ⟨m, rfl, hm, fun I10 e10 => s_Md_idle hm ?_⟩⟩⟩
      subst e6; subst e10
      exact k
    by_cases h1 : p2 = -1
    · refine Or.inr ⟨m, hm, rfl, Or.inl h1, fun post exc k => ne_1 hm (by decide) ⟨fun _ => ⟨m, rfl, hm, fun I2 e2 => s_Me_drop (fun I5 e5 => s_Mo_turnIdle ?_)⟩, fun hc => absurd h1 hc⟩, fun post k => ix_M1 hm (by decide) ⟨fun hc => absurd hc (by decide), fun _ => ⟨fun hc => ?_, fun _ => ⟨fun hc => ?_, fun _ => good post k⟩⟩⟩⟩
      · subst e2; subst e5
        exact k
      · rw [h1] at hc
        exact absurd hc (by decide)
      · rw [h1] at hc
        exact absurd hc (by decide)
    · rcases ix_all p2 (n := 3) (by decide) with h | ⟨c, hc, rfl⟩
      · refine Or.inl ⟨fun post exc k => ne_1 hm (by decide) ⟨fun hc => absurd hc h1, fun _ => ne_0 h k⟩, fun post k => ix_M1 hm (by decide) ⟨fun hc => absurd hc (by decide), fun _ => ⟨fun _ => bad post k, fun hn => ⟨fun _ => bad post k, fun hn3 => ?_⟩⟩⟩⟩
        rcases h with h | h
        · exact absurd (m1_lt h h1) hn
        · exact absurd h hn3
      · refine Or.inr ⟨m, hm, rfl, Or.inr ⟨c, hc, rfl⟩, fun post exc k => ne_1 hm (by decide) ⟨fun e => absurd e h1, fun _ => ne_1 hc (by decide) ⟨m, rfl, hm, fun I2 e2 => s_Me_drop (fun I5 e5 => s_Mo_turnIdle ?_)⟩⟩, fun post k => ix_M1 hm (by decide) ⟨fun hc => absurd hc (by decide), fun _ => ⟨fun hl => ?_, fun _ => ⟨fun hl => absurd hl (nI_ge hc (by decide)), fun _ => good post k⟩⟩⟩⟩
        · subst e2; subst e5
          exact k
        · have : ∀ c, c < 3 → ¬ nI c < (-1 : Int32) := by decide +kernel
          exact absurd hl (this c hc)
