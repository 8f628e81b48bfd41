/-! a release -/
theorem d_release {I : SI} {J : SJ} {A : SI} {B : SJ} (p1 : Int32) (hk : ∀ m, m < 8 → (xsu (I (22 + m) 0) (16 : Int32)) &&& (15 : Int32) = A 7 m) : thr (p_TC_release p1) (p_Md_release p1) I J A B 1 1 ∨ ∃ m, m < 8 ∧ p1 = nI m ∧ ((A 7 m = 2 ∧ dbl (p_TC_release p1) (p_Md_release p1) I J A B (cPut (xu I (14 + m) 7 (-1)) m 0) J (mNo (xu (xu A 0 0 0) 16 m (-1)) m) B) ∨ (¬ A 7 m = 2 ∧ dbl (p_TC_release p1) (p_Md_release p1) I J A B (xu I (14 + m) 7 (-1)) J (xu (xu A 0 0 0) 16 m (-1)) B)) := by
  rcases ix_all p1 (n := 8) (by decide) with h | ⟨m, hm, rfl⟩
  · refine Or.inl ⟨fun post exc k => ne_0 h k, fun post k => ix_M0 h ⟨fun _ => ?_, fun hc => absurd rfl hc⟩⟩
    intro I4 e4
    subst e4
    exact ⟨fun _ => k, fun hc => absurd ((xu_s A 0 0 1).symm.trans hc) (by decide)⟩
  · refine Or.inr ⟨m, hm, rfl, ?_⟩
    have eI : xu I (14 + m) 7 (-1) (22 + m) = I (22 + m) := xu_o I _ _ (by omega)
    have eA : xu (xu A 0 0 0) 16 m (-1) 7 = A 7 := by rw [xu_o _ _ _ (by decide), xu_o A _ _ (by decide)]
    have cls : ∀ (post : SI → SJ → Prop) (exc : Nat → SI → SJ → Prop), ((¬ A 7 m = 2 → post (xu I (14 + m) 7 (-1)) J) ∧ (A 7 m = 2 → post (cPut (xu I (14 + m) 7 (-1)) m 0) J)) → p_TC_release (nI m) post exc I J := by
      intro post exc k
      refine ne_1 hm (by decide) ⟨m, rfl, hm, fun I2 e2 => ⟨m, rfl, hm, ?_⟩⟩
      subst e2
      refine ⟨fun hn => k.1 (fun e => hn ?_), fun hn => ⟨m, rfl, hm, s_Me_drop (k.2 ?_)⟩⟩
      · rw [eI, hk m hm]
        exact e
      · rw [eI, hk m hm] at hn
        exact hn
    have mdl : ∀ (post : SI → SJ → Prop), ((¬ A 7 m = 2 → post (xu (xu A 0 0 0) 16 m (-1)) B) ∧ (A 7 m = 2 → post (mNo (xu (xu A 0 0 0) 16 m (-1)) m) B)) → p_Md_release (nI m) post A B := by
      intro post k
      refine ix_M1 hm (by decide) ⟨fun hc => absurd hc (by decide), fun _ => ?_⟩
      intro I4 e4
      subst e4
      refine ⟨fun hc => absurd (xu_s A 0 0 0) hc, fun _ => ⟨m, rfl, hm, fun I6 e6 => ⟨m, rfl, hm, ?_⟩⟩⟩
      subst e6
      rw [eA]
      exact ⟨k.1, fun e => s_Md_noMessage hm (k.2 e)⟩
    by_cases z : A 7 m = 2
    · exact Or.inl ⟨z, fun post exc k => cls post exc ⟨fun hn => absurd z hn, fun _ => k⟩, fun post k => mdl post ⟨fun hn => absurd z hn, fun _ => k⟩⟩
    · exact Or.inr ⟨z, fun post exc k => cls post exc ⟨fun _ => k, fun hn => absurd hn z⟩, fun post k => mdl post ⟨fun _ => k, fun hn => absurd hn z⟩⟩
