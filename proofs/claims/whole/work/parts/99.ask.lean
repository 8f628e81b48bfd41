/-! the calls that answer -/
def pq {V : Type} (f : (V → SI → SJ → Prop) → SI → SJ → Prop) (r : (V → SI → SJ → Prop) → SI → SJ → Prop) (I : SI) (J : SJ) (A : SI) (B : SJ) : Prop :=
  ∃ (v : V) (I' : SI) (J' : SJ) (A' : SI) (B' : SJ), gi f I J v I' J' ∧ gi r A B v A' B' ∧ jInv I' J' A' B'
theorem pq_1 {f r : (Int32 → SI → SJ → Prop) → SI → SJ → Prop} {I : SI} {J : SJ} {A : SI} {B : SJ} (h : jInv I J A B) (s : same1 f r I J A B) : pq f r I J A B := by
  obtain ⟨v, g1, g2⟩ := s
  exact ⟨v, I, J, xu A 0 0 0, B, g1, g2, thr_inv h 0⟩
section G
variable {I : SI} {J : SJ} {A : SI} {B : SJ}
theorem e_mobile (h : jInv I J A B) (p1 p2 : Int32) : pq (p_TC_mobile p1 p2) (p_Md_mobile p1 p2) I J A B := by
  refine pq_1 h (t_mobile (fun m hm => ?_) p1 p2)
  have mob := h.1 m hm
  obtain ⟨h1, h2, h3, h4, ⟨n, hn, n1, n2, n3⟩, h6, h7, ⟨g1, g2, g3, g4⟩, ⟨⟨t, t5, t1, t2⟩, t3⟩, h10⟩ := id mob
  refine ⟨h3.1, ?_, fun e => ?_, fun e => ?_, h6.1, kind_eq hm mob, t1.trans t2.symm, t3, g1, g2, g3, g4, n1.trans n2.symm, (h.2.1.1 m hm).2.1.1⟩
  · rcases h7 with ⟨a, b, _⟩ | ⟨d, g, _, _, a, b, _⟩
    · exact b.trans a.symm
    · exact b.trans a.symm
  · rcases h7 with ⟨a, b, c, d⟩ | ⟨d, g, hd, _, a, _⟩
    · exact ⟨c, d⟩
    · rw [a] at e
      rcases hd with rfl | rfl <;> exact absurd e (by decide)
  · rcases h7 with ⟨a, b, c, d⟩ | ⟨d, g, hd, _, a, b, c, x, y, _⟩
    · exact absurd a e
    · exact ⟨c, y.trans x.symm⟩
theorem e_call (h : jInv I J A B) (p1 p2 : Int32) : pq (p_TC_call p1 p2) (p_Md_call p1 p2) I J A B := by
  refine pq_1 h (t_call (fun g hg => ?_) (fun g hg => ?_) p1 p2)
  · obtain ⟨_, ⟨n, hn, n1, n2, n3⟩, _⟩ := h.2.1.2.1 g hg
    exact ⟨n, hn, n1, n2, fun k hk => by
      obtain ⟨b, _, b1, b2⟩ := n3 k hk
      exact b1.trans b2.symm⟩
  · rcases (h.2.1.2.1 g hg).2.2 with z | ⟨c, x, c0, c4, _, a, b, d, e, f⟩
    · exact Or.inl z
    · exact Or.inr ⟨by rw [a]; exact nI_ne0 c0 (by omega), b.trans a.symm, e.trans d.symm, f⟩
theorem e_waiting (h : jInv I J A B) (p1 p2 : Int32) : pq (p_TC_waiting p1 p2) (p_Md_waiting p1 p2) I J A B := by
  refine pq_1 h (t_waiting (fun g hg => ?_) p1 p2)
  obtain ⟨_, ⟨n, hn, n1, n2, n3⟩, _⟩ := h.2.1.2.1 g hg
  exact ⟨n, hn, n1, n2, fun k hk => by
    obtain ⟨b, _, b1, b2⟩ := n3 k hk
    exact b1.trans b2.symm⟩
theorem e_saying (h : jInv I J A B) (p1 p2 : Int32) : pq (p_TC_saying p1 p2) (p_Md_saying p1 p2) I J A B := by
  refine pq_1 h (t_saying (fun c hc => ?_) p1 p2)
  obtain ⟨n, hn, n1, n2, n3⟩ := h.2.1.2.2 c hc
  exact ⟨n, hn, n1, n2, fun k hk => by
    obtain ⟨b, _, b1, b2⟩ := n3 k hk
    exact b1.trans b2.symm⟩
theorem dt_TC_decoded (p1 : Int64) (p3 : Int32) (I : SI) (J : SJ) : Dt (fun post => p_TC_decoded p1 p3 post I J) := dt_Co_blockOf p1 p3 I J
theorem dt_TC_distance (p1 : Int64) (p3 : Int32) (I : SI) (J : SJ) : Dt (fun post => p_TC_distance p1 p3 post I J) := by
  unfold p_TC_distance p_Co_unlikePlaces
  exact dt_bind (dt_Co_nearest p1 p3 I J) (fun _ _ _ => dt_post _ _ _)
theorem dt_Md_coded (p1 p2 : Int32) (I : SI) (J : SJ) : Dt (fun post => p_Md_coded p1 p2 post I J) := by
  unfold p_Md_coded
  refine dt_all fun _ => ?_
  exact dt_bind (dt_Md_burstOf _ _ _ _) (fun _ _ _ => dt_post _ _ _)
theorem dt_Md_decoded (p1 : Int64) (p3 : Int32) (I : SI) (J : SJ) : Dt (fun post => p_Md_decoded p1 p3 post I J) := by
  unfold p_Md_decoded
  refine dt_all fun _ => ?_
  exact dt_bind (dt_Md_blockOf _ _ _ _) (fun _ _ _ => dt_post _ _ _)
theorem dt_Md_distance (p1 : Int64) (p3 : Int32) (I : SI) (J : SJ) : Dt (fun post => p_Md_distance p1 p3 post I J) := by
  unfold p_Md_distance
  refine dt_all fun _ => ?_
  exact dt_bin0 (dt_Md_nearest _ _ _ _) (fun _ _ => dt_post _ _ _)
/-- the coder's own rows may change -/
theorem jInv.rows {I : SI} {J J' : SJ} {A A' : SI} {B B' : SJ} (h : jInv I J A B) (j : ∀ o, o ≠ 4 → o ≠ 5 → J' o = J o) (a : ∀ o, o ≠ 0 → o ≠ 1 → o ≠ 2 → A' o = A o) (a0 : ∀ k, k ≠ 0 → k ≠ 4 → A' 0 k = A 0 k) (b : ∀ o, o ≠ 0 → B' o = B o) : jInv I J' A' B' := by
  obtain ⟨M, W, ⟨t1, t2, t3⟩, tm⟩ := h
  refine ⟨fun m hm => rMob_of (M m hm) rfl rfl rfl (fun o _ _ _ _ _ _ => by rw [a o (by omega) (by omega) (by omega)]) (fun k _ => by rw [a 18 (by decide) (by decide) (by decide)]), ⟨fun m hm => rPl_of (W.1 m hm) rfl rfl rfl (by rw [a 5 (by decide) (by decide) (by decide)]) (by rw [a 6 (by decide) (by decide) (by decide)]) (by rw [a 24 (by decide) (by decide) (by decide)]), fun g hg => rGrp_of (W.2.1 g hg) rfl rfl (fun o _ _ _ => by rw [a o (by omega) (by omega) (by omega)]) (fun k _ => by rw [a 30 (by decide) (by decide) (by decide)]), fun c hc => rSy_of (W.2.2 c hc) rfl rfl (by rw [a 33 (by decide) (by decide) (by decide)]) (fun k _ => by rw [a 32 (by decide) (by decide) (by decide)])⟩, ⟨t1, hCol_of t2 (j 2 (by decide) (by decide)), fun q hq => by rw [j 13 (by decide) (by decide), b 25 (by decide)]; exact t3 q hq⟩, ?_⟩
  unfold rTm
  rw [a0 36 (by decide) (by decide)]
  exact tm
theorem e_coded (h : jInv I J A B) (p1 p2 : Int32) : pq (p_TC_coded p1 p2) (p_Md_coded p1 p2) I J A B := by
  obtain ⟨hs, hk, _⟩ := h.2.2.1
  have g := s_Md_coded (I := A) (J := B) (p1 := p1) (p2 := p2) (post := fun v I1 J1 => v = cdF p1 p2 ∧ J1 = B ∧ (∀ o, o ≠ 0 → I1 o = A o) ∧ (∀ k, k ≠ 0 → I1 0 k = A 0 k)) (fun I' h1 h2 _ => ⟨rfl, rfl, h1, h2⟩)
  obtain ⟨v, A1, B1, ⟨rfl, rfl, a1, a2⟩, g2⟩ := dt_Md_coded p1 p2 A B _ g
  exact ⟨cdF p1 p2, I, J, A1, B1, fun post q => s_TC_coded hs hk q, g2, h.rows (fun _ _ _ => rfl) (fun o h0 _ _ => a1 o h0) (fun k h0 _ => a2 k h0) (fun _ _ => rfl)⟩
theorem e_decoded (h : jInv I J A B) (p1 : Int64) (p3 : Int32) : pq (p_TC_decoded p1 p3) (p_Md_decoded p1 p3) I J A B := by
  obtain ⟨hs, hk, _⟩ := h.2.2.1
  have c := s_TC_decoded hs hk (p1 := p1) (p3 := p3) (post := fun v I1 J1 => v = deF p1 p3 ∧ I1 = I ∧ ∀ o, o ≠ 4 → o ≠ 5 → J1 o = J o) (fun J' h1 => ⟨rfl, rfl, h1⟩)
  obtain ⟨v, I1, J1, ⟨rfl, rfl, j1⟩, g1⟩ := dt_TC_decoded p1 p3 I J _ c
  have g := s_Md_decoded (I := A) (J := B) (p1 := p1) (p3 := p3) (post := fun v I1 J1 => v = deF p1 p3 ∧ (∀ o, o ≠ 0 → o ≠ 1 → o ≠ 2 → I1 o = A o) ∧ (∀ k, k ≠ 0 → k ≠ 4 → I1 0 k = A 0 k) ∧ (∀ o, o ≠ 0 → J1 o = B o)) (fun I' J' h1 h2 _ h4 _ => ⟨rfl, h1, h2, h4⟩)
  obtain ⟨v, A1, B1, ⟨rfl, a1, a2, a3⟩, g2⟩ := dt_Md_decoded p1 p3 A B _ g
  exact ⟨deF p1 p3, I1, J1, A1, B1, g1, g2, h.rows j1 a1 a2 a3⟩
theorem e_distance (h : jInv I J A B) (p1 : Int64) (p3 : Int32) : pq (p_TC_distance p1 p3) (p_Md_distance p1 p3) I J A B := by
  obtain ⟨hs, hk, _⟩ := h.2.2.1
  have c := s_TC_distance hs hk (p1 := p1) (p3 := p3) (post := fun v I1 J1 => v = diF p1 p3 ∧ I1 = I ∧ ∀ o, o ≠ 4 → o ≠ 5 → J1 o = J o) (fun J' h1 => ⟨rfl, rfl, h1⟩)
  obtain ⟨v, I1, J1, ⟨rfl, rfl, j1⟩, g1⟩ := dt_TC_distance p1 p3 I J _ c
  have g := s_Md_distance (I := A) (J := B) (p1 := p1) (p3 := p3) (post := fun v I1 J1 => v = diF p1 p3 ∧ (∀ o, o ≠ 0 → o ≠ 1 → o ≠ 2 → I1 o = A o) ∧ (∀ k, k ≠ 0 → k ≠ 4 → I1 0 k = A 0 k) ∧ (∀ o, o ≠ 0 → J1 o = B o)) (fun I' J' h1 h2 _ h4 _ => ⟨rfl, h1, h2, h4⟩)
  obtain ⟨v, A1, B1, ⟨rfl, a1, a2, a3⟩, g2⟩ := dt_Md_distance p1 p3 A B _ g
  exact ⟨diF p1 p3, I1, J1, A1, B1, g1, g2, h.rows j1 a1 a2 a3⟩
end G
/-! how it begins -/
theorem jInv_0 {I : SI} {J : SJ} {A : SI} {B : SJ} (hs : hSum I) (hk : hCol J) (i0 : I 0 4 = 0) (i7 : ∀ m, m < 8 → I 7 m = 0) (i8 : ∀ m, m < 8 → I 8 m = -1) (i9 : ∀ m, m < 8 → I 9 m = 0)
    (j13 : ∀ j, j < 11 → J 13 j = 0)
    (im : ∀ m, m < 8 → I (14 + m) 0 = nI m ∧ I (14 + m) 3 = 0 ∧ I (14 + m) 4 = 0 ∧ I (14 + m) 5 = 0 ∧ I (14 + m) 6 = -1 ∧ I (14 + m) 7 = -1 ∧ I (14 + m) 8 = 0 ∧ I (14 + m) 9 = -1 ∧ I (14 + m) 10 = -1 ∧ I (14 + m) 11 = 0 ∧ I (14 + m) 12 = -1 ∧ I (14 + m) 13 = 0 ∧ I (14 + m) 14 = -1)
    (ie : ∀ m, m < 8 → I (22 + m) 0 = 0 ∧ I (22 + m) 1 = 0 ∧ I (22 + m) 2 = 0 ∧ I (22 + m) 3 = 0)
    (ig : ∀ g, g < 4 → I (38 + g) 1 = 0 ∧ I (38 + g) 2 = 0 ∧ I (38 + g) 3 = -1 ∧ I (38 + g) 4 = -1 ∧ I (38 + g) 5 = -1)
    (ic : ∀ c, c < 3 → I (46 + c) 1 = 0)
    (a36 : A 0 36 = 0) (a0 : ∀ o m, m < 8 → o = 4 ∨ o = 5 ∨ o = 6 ∨ o = 7 ∨ o = 10 ∨ o = 11 ∨ o = 13 ∨ o = 17 ∨ o = 19 ∨ o = 20 ∨ o = 22 → A o m = 0) (a1 : ∀ o m, m < 8 → o = 3 ∨ o = 16 ∨ o = 21 ∨ o = 23 ∨ o = 24 → A o m = -1)
    (ag : ∀ o g, g < 4 → o = 26 ∨ o = 27 ∨ o = 31 → A o g = 0) (ac : ∀ c, c < 3 → A 33 c = 0) (b25 : ∀ j, j < 11 → B 25 j = 0) : jInv I J A B := by
  refine ⟨fun m hm => ?_, ⟨fun m hm => ?_, fun g hg => ?_, fun c hc => ?_⟩, ⟨hs, hk, fun j hj => ⟨0, by decide, j13 j hj, b25 j hj⟩⟩, ⟨0, by decide, i0, a36⟩⟩
  · obtain ⟨q0, q3, q4, q5, q6, q7, q8, q9, q10, q11, q12, q13, q14⟩ := im m hm
    obtain ⟨e0, e1, e2, e3⟩ := ie m hm
    have z : ∀ o, (o = 4 ∨ o = 5 ∨ o = 6 ∨ o = 7 ∨ o = 10 ∨ o = 11 ∨ o = 13 ∨ o = 17 ∨ o = 19 ∨ o = 20 ∨ o = 22) → A o m = 0 := fun o ho => a0 o m hm ho
    have n : ∀ o, (o = 3 ∨ o = 16 ∨ o = 21 ∨ o = 23 ∨ o = 24) → A o m = -1 := fun o ho => a1 o m hm ho
    exact ⟨q0, by rw [q4, z 4 (by omega)], ⟨by rw [q6, n 3 (by omega)], Or.inl (n 3 (by omega))⟩, ⟨0, by decide, q5, z 17 (by omega)⟩, ⟨0, by decide, q3, z 19 (by omega), fun k hk => by omega⟩, ⟨by rw [q7, n 16 (by omega)], Or.inl (n 16 (by omega))⟩, Or.inl ⟨z 13 (by omega), q8, q9, q10⟩, ⟨by rw [q11, z 20 (by omega)], by rw [q12, n 21 (by omega)], by rw [q13, z 22 (by omega)], by rw [q14, n 23 (by omega)]⟩, ⟨⟨0, by decide, e1, z 10 (by omega)⟩, by rw [e2, z 11 (by omega)]⟩, rMsg_0 (z 7 (by omega)) (z 10 (by omega)) (z 11 (by omega)) e0 e3⟩
  · exact ⟨by rw [i7 m hm, a0 5 m hm (by omega)], ⟨by rw [i8 m hm, a1 24 m hm (by omega)], Or.inl (a1 24 m hm (by omega))⟩, 0, by decide, i9 m hm, a0 6 m hm (by omega)⟩
  · obtain ⟨g1, g2, g3, g4, g5⟩ := ig g hg
    exact ⟨by rw [g2, ag 26 g hg (by omega)], ⟨0, by decide, g1, ag 31 g hg (by omega), fun k hk => by omega⟩, Or.inl ⟨ag 27 g hg (by omega), g3, g4, g5⟩⟩
  · exact ⟨0, by decide, ic c hc, ac c hc, fun k hk => by omega⟩
