/-! the relation, first pieces: a group's call and row, a cell's says; what is told of them. (I, J): the class's state; (A, B): the reference's. -/
theorem ix_C0 {p q : Int32} (h : p < 0 ∨ q ≤ p) {post : Int32 → SI → SJ → Prop} {I : SI} {J : SJ} (k : post 0 I J) : p_TC_isIndex p q post I J :=
  ⟨fun _ => k, fun h1 => ⟨fun _ => k, fun h2 => absurd (h.resolve_left h1) h2⟩⟩
theorem ix_C1 {j n : Nat} (h : j < n) (hn : n < 2 ^ 31) {post : Int32 → SI → SJ → Prop} {I : SI} {J : SJ} (k : post 1 I J) : p_TC_isIndex (nI j) (nI n) post I J :=
  ⟨fun h1 => absurd h1 (nI_pos (by omega)), fun _ => ⟨fun h2 => absurd h2 (nI_ge h hn), fun _ => k⟩⟩
theorem ix_M0 {p q : Int32} (h : p < 0 ∨ q ≤ p) {post : Int32 → SI → SJ → Prop} {I : SI} {J : SJ} (k : post 0 I J) : p_Md_in p q post I J :=
  ⟨fun _ => k, fun h1 => ⟨fun _ => k, fun h2 => absurd (h.resolve_left h1) h2⟩⟩
theorem ix_M1 {j n : Nat} (h : j < n) (hn : n < 2 ^ 31) {post : Int32 → SI → SJ → Prop} {I : SI} {J : SJ} (k : post 1 I J) : p_Md_in (nI j) (nI n) post I J :=
  ⟨fun h1 => absurd h1 (nI_pos (by omega)), fun _ => ⟨fun h2 => absurd h2 (nI_ge h hn), fun _ => k⟩⟩
theorem ix_all (p : Int32) {n : Nat} (hn : n < 2 ^ 31) : (p < 0 ∨ nI n ≤ p) ∨ ∃ j, j < n ∧ p = nI j := by
  rcases pk_ix p hn with h | h | h
  · exact Or.inl (Or.inl h)
  · exact Or.inl (Or.inr h)
  · exact Or.inr h
/-- a group: its row of those who wait, and its call -/
def rRow (g : Nat) (I A : SI) : Prop := ∃ n, n ≤ 6 ∧ I (38 + g) 1 = nI n ∧ A 31 g = nI n ∧ ∀ k, k < n → I (42 + g) k = A 30 (6 * g + k)
def rCall (g : Nat) (I A : SI) : Prop := (A 27 g = 0 ∧ I (38 + g) 3 = -1 ∧ I (38 + g) 4 = -1 ∧ I (38 + g) 5 = -1) ∨ (¬ A 27 g = 0 ∧ I (38 + g) 3 = A 27 g ∧ I (38 + g) 4 = A 28 g ∧ I (38 + g) 5 = A 29 g)
/-- what a cell is to say -/
def rSay (c : Nat) (I A : SI) : Prop := ∃ n, n ≤ 8 ∧ I (46 + c) 1 = nI n ∧ A 33 c = nI n ∧ ∀ k, k < n → I (49 + c) k = A 32 (9 * c + k)
/-- the two give one answer, and the reference forgets what it threw -/
def same1 (f : (Int32 → SI → SJ → Prop) → SI → SJ → Prop) (r : (Int32 → SI → SJ → Prop) → SI → SJ → Prop) (I : SI) (J : SJ) (A : SI) (B : SJ) : Prop :=
  ∃ v, (∀ post : Int32 → SI → SJ → Prop, post v I J → f post I J) ∧ (∀ post : Int32 → SI → SJ → Prop, post v (xu A 0 0 0) B → r post A B)
theorem a0_ne (A : SI) {o : Nat} (h : o ≠ 0) : xu A 0 0 0 o = A o := xu_o A 0 _ h
theorem t_call {I : SI} {J : SJ} {A : SI} {B : SJ} (hR : ∀ g, g < 4 → rRow g I A) (hC : ∀ g, g < 4 → rCall g I A) (p1 p2 : Int32) : same1 (p_TC_call p1 p2) (p_Md_call p1 p2) I J A B := by
  rcases ix_all p1 (n := 4) (by decide) with h | ⟨g, hg, rfl⟩
  · exact ⟨-1, fun post k => ix_C0 h ⟨fun _ => k, fun hc => absurd rfl hc⟩, fun post k I1 e1 => by
      subst e1
      exact ix_M0 h ⟨fun _ => k, fun hc => absurd rfl hc⟩⟩
  · obtain ⟨n, hn, n1, n2, _⟩ := hR g hg
    have hc := hC g hg
    have cls : ∀ post : Int32 → SI → SJ → Prop, p_Gr_tell g p2 post I J → p_TC_call (nI g) p2 post I J := fun post k => ix_C1 hg (by decide) ⟨fun hc => absurd hc (by decide), fun _ => ⟨g, rfl, hg, k⟩⟩
    rcases ix_all p2 (n := 4) (by decide) with h | ⟨w, hw, rfl⟩
    · have no : ∀ j, j < 4 → ¬ p2 = nI j := fun j hj e => by
        subst e
        rcases h with h | h
        · exact nI_pos (by omega) h
        · exact nI_ge hj (by decide) h
      refine ⟨-1, fun post k => cls post ?_, fun post k I1 e1 => ?_⟩
      · exact ⟨fun e => absurd e (no 0 (by decide)), fun _ => ⟨fun e => absurd e (no 1 (by decide)), fun _ => ⟨fun e => absurd e (no 2 (by decide)), fun _ => ⟨fun e => absurd e (no 3 (by decide)), fun _ => k⟩⟩⟩⟩
      · subst e1
        exact ix_M1 hg (by decide) ⟨fun hc => absurd hc (by decide), fun _ => ix_M0 h ⟨fun hc => absurd rfl hc, fun _ => k⟩⟩
    · have mdl : ∀ (post : Int32 → SI → SJ → Prop), ((¬ nI w = (3 : Int32) → ((¬ A 27 g = 0 → ((¬ nI w = (0 : Int32) → ((¬ nI w = (1 : Int32) → post (A 29 g) (xu A 0 0 0) B) ∧ (nI w = (1 : Int32) → post (A 28 g) (xu A 0 0 0) B))) ∧ (nI w = (0 : Int32) → post (A 27 g) (xu A 0 0 0) B))) ∧ (A 27 g = 0 → post (-1) (xu A 0 0 0) B))) ∧ (nI w = (3 : Int32) → post (A 31 g) (xu A 0 0 0) B)) → p_Md_call (nI g) (nI w) post A B := by
        intro post k I1 e1
        subst e1
        refine ix_M1 hg (by decide) ⟨fun hc => absurd hc (by decide), fun _ => ix_M1 hw (by decide) ⟨fun _ => ⟨fun h3 => ⟨g, rfl, hg, ?_, ?_⟩, fun h3 => ⟨g, rfl, hg, ?_⟩⟩, fun hc => absurd hc (by decide)⟩⟩
        · intro hz
          rw [a0_ne A (by decide)] at hz
          refine ⟨fun h0 => ⟨fun h1 => ⟨g, rfl, hg, ?_⟩, fun h1 => ⟨g, rfl, hg, ?_⟩⟩, fun h0 => ⟨g, rfl, hg, ?_⟩⟩
          · rw [a0_ne A (by decide)]
            exact ((k.1 h3).1 hz).1 h0 |>.1 h1
          · rw [a0_ne A (by decide)]
            exact ((k.1 h3).1 hz).1 h0 |>.2 h1
          · rw [a0_ne A (by decide)]
            exact ((k.1 h3).1 hz).2 h0
        · intro hz
          rw [a0_ne A (by decide)] at hz
          exact (k.1 h3).2 hz
        · rw [a0_ne A (by decide)]
          exact k.2 h3
      have hw4 : w = 0 ∨ w = 1 ∨ w = 2 ∨ w = 3 := by omega
      rcases hc with ⟨z, z3, z4, z5⟩ | ⟨z, z3, z4, z5⟩
      · rcases hw4 with rfl | rfl | rfl | rfl
        · exact ⟨-1, fun post k => cls post ⟨fun _ => by rw [z3]; exact k, fun e => absurd rfl e⟩, fun post k => mdl post ⟨fun _ => ⟨fun hz => absurd z hz, fun _ => k⟩, fun e => absurd e (by decide)⟩⟩
        · exact ⟨-1, fun post k => cls post ⟨fun e => absurd e (by decide), fun _ => ⟨fun _ => by rw [z4]; exact k, fun e => absurd rfl e⟩⟩, fun post k => mdl post ⟨fun _ => ⟨fun hz => absurd z hz, fun _ => k⟩, fun e => absurd e (by decide)⟩⟩
        · exact ⟨-1, fun post k => cls post ⟨fun e => absurd e (by decide), fun _ => ⟨fun e => absurd e (by decide), fun _ => ⟨fun _ => by rw [z5]; exact k, fun e => absurd rfl e⟩⟩⟩, fun post k => mdl post ⟨fun _ => ⟨fun hz => absurd z hz, fun _ => k⟩, fun e => absurd e (by decide)⟩⟩
        · exact ⟨nI n, fun post k => cls post ⟨fun e => absurd e (by decide), fun _ => ⟨fun e => absurd e (by decide), fun _ => ⟨fun e => absurd e (by decide), fun _ => ⟨fun _ => by rw [n1]; exact k, fun e => absurd rfl e⟩⟩⟩⟩, fun post k => mdl post ⟨fun e => absurd rfl e, fun _ => by rw [n2]; exact k⟩⟩
      · rcases hw4 with rfl | rfl | rfl | rfl
        · exact ⟨A 27 g, fun post k => cls post ⟨fun _ => by rw [z3]; exact k, fun e => absurd rfl e⟩, fun post k => mdl post ⟨fun _ => ⟨fun _ => ⟨fun e => absurd rfl e, fun _ => k⟩, fun hz => absurd hz z⟩, fun e => absurd e (by decide)⟩⟩
        · exact ⟨A 28 g, fun post k => cls post ⟨fun e => absurd e (by decide), fun _ => ⟨fun _ => by rw [z4]; exact k, fun e => absurd rfl e⟩⟩, fun post k => mdl post ⟨fun _ => ⟨fun _ => ⟨fun _ => ⟨fun e => absurd rfl e, fun _ => k⟩, fun e => absurd e (by decide)⟩, fun hz => absurd hz z⟩, fun e => absurd e (by decide)⟩⟩
        · exact ⟨A 29 g, fun post k => cls post ⟨fun e => absurd e (by decide), fun _ => ⟨fun e => absurd e (by decide), fun _ => ⟨fun _ => by rw [z5]; exact k, fun e => absurd rfl e⟩⟩⟩, fun post k => mdl post ⟨fun _ => ⟨fun _ => ⟨fun _ => ⟨fun _ => k, fun e => absurd e (by decide)⟩, fun e => absurd e (by decide)⟩, fun hz => absurd hz z⟩, fun e => absurd e (by decide)⟩⟩
        · exact ⟨nI n, fun post k => cls post ⟨fun e => absurd e (by decide), fun _ => ⟨fun e => absurd e (by decide), fun _ => ⟨fun e => absurd e (by decide), fun _ => ⟨fun _ => by rw [n1]; exact k, fun e => absurd rfl e⟩⟩⟩⟩, fun post k => mdl post ⟨fun e => absurd rfl e, fun _ => by rw [n2]; exact k⟩⟩
theorem t_waiting {I : SI} {J : SJ} {A : SI} {B : SJ} (hR : ∀ g, g < 4 → rRow g I A) (p1 p2 : Int32) : same1 (p_TC_waiting p1 p2) (p_Md_waiting p1 p2) I J A B := by
  rcases ix_all p1 (n := 4) (by decide) with h | ⟨g, hg, rfl⟩
  · exact ⟨-1, fun post k => ix_C0 h ⟨fun _ => k, fun hc => absurd rfl hc⟩, fun post k I1 e1 => by
      subst e1
      exact ix_M0 h ⟨fun _ => k, fun hc => absurd rfl hc⟩⟩
  · obtain ⟨n, hn, n1, n2, n3⟩ := hR g hg
    have eg : (nI g) &&& (3 : Int32) = nI g := by
      have : ∀ g, g < 4 → (nI g) &&& (3 : Int32) = nI g := by decide +kernel
      exact this g hg
    rcases ix_all p2 (n := n) (by omega) with h | ⟨w, hw, rfl⟩
    · refine ⟨-1, fun post k => ix_C1 hg (by decide) ⟨fun hc => absurd hc (by decide), fun _ => ⟨g, rfl, hg, ?_⟩⟩, fun post k I1 e1 => ?_⟩
      · unfold p_Gr_rowAt
        rw [n1]
        exact ix_C0 h ⟨fun _ => k, fun hc => absurd rfl hc⟩
      · subst e1
        refine ix_M1 hg (by decide) ⟨fun hc => absurd hc (by decide), fun _ => ⟨g, eg, hg, ?_⟩⟩
        rw [a0_ne A (by decide), n2]
        exact ix_M0 h ⟨fun _ => k, fun hc => absurd rfl hc⟩
    · refine ⟨A 30 (6 * g + w), fun post k => ix_C1 hg (by decide) ⟨fun hc => absurd hc (by decide), fun _ => ⟨g, rfl, hg, ?_⟩⟩, fun post k I1 e1 => ?_⟩
      · unfold p_Gr_rowAt
        rw [n1]
        refine ix_C1 hw (by omega) ⟨fun hc => absurd hc (by decide), fun _ => ⟨w, rfl, by omega, ?_⟩⟩
        rw [n3 w hw]
        exact k
      · subst e1
        refine ix_M1 hg (by decide) ⟨fun hc => absurd hc (by decide), fun _ => ⟨g, eg, hg, ?_⟩⟩
        rw [a0_ne A (by decide), n2]
        refine ix_M1 hw (by omega) ⟨fun hc => absurd hc (by decide), fun _ => ⟨6 * g + w, ?_, by omega, ?_⟩⟩
        · rw [show (6 : Int32) * nI g = nI (6 * g) from pk_mul 6 g, nI_add]
        · rw [a0_ne A (by decide)]
          exact k
theorem t_saying {I : SI} {J : SJ} {A : SI} {B : SJ} (hR : ∀ c, c < 3 → rSay c I A) (p1 p2 : Int32) : same1 (p_TC_saying p1 p2) (p_Md_saying p1 p2) I J A B := by
  rcases ix_all p1 (n := 3) (by decide) with h | ⟨g, hg, rfl⟩
  · exact ⟨-1, fun post k => ix_C0 h ⟨fun _ => k, fun hc => absurd rfl hc⟩, fun post k I1 e1 => by
      subst e1
      exact ix_M0 h ⟨fun _ => k, fun hc => absurd rfl hc⟩⟩
  · obtain ⟨n, hn, n1, n2, n3⟩ := hR g hg
    rcases ix_all p2 (n := n) (by omega) with h | ⟨w, hw, rfl⟩
    · refine ⟨-1, fun post k => ix_C1 hg (by decide) ⟨fun hc => absurd hc (by decide), fun _ => ⟨g, rfl, hg, ?_⟩⟩, fun post k I1 e1 => ?_⟩
      · unfold p_Ce_sayingAt
        rw [n1]
        exact ix_C0 h ⟨fun _ => k, fun hc => absurd rfl hc⟩
      · subst e1
        refine ix_M1 hg (by decide) ⟨fun hc => absurd hc (by decide), fun _ => ⟨g, rfl, hg, ?_⟩⟩
        rw [a0_ne A (by decide), n2]
        exact ix_M0 h ⟨fun hc => absurd rfl hc, fun _ => k⟩
    · refine ⟨A 32 (9 * g + w), fun post k => ix_C1 hg (by decide) ⟨fun hc => absurd hc (by decide), fun _ => ⟨g, rfl, hg, ?_⟩⟩, fun post k I1 e1 => ?_⟩
      · unfold p_Ce_sayingAt
        rw [n1]
        refine ix_C1 hw (by omega) ⟨fun hc => absurd hc (by decide), fun _ => ⟨w, rfl, by omega, ?_⟩⟩
        rw [n3 w hw]
        exact k
      · subst e1
        refine ix_M1 hg (by decide) ⟨fun hc => absurd hc (by decide), fun _ => ⟨g, rfl, hg, ?_⟩⟩
        rw [a0_ne A (by decide), n2]
        refine ix_M1 hw (by omega) ⟨fun _ => ⟨9 * g + w, ?_, by omega, ?_⟩, fun hc => absurd hc (by decide)⟩
        · rw [show (9 : Int32) * nI g = nI (9 * g) from pk_mul 9 g, nI_add]
        · rw [a0_ne A (by decide)]
          exact k
