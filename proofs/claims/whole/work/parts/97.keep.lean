/-! the calls keep the relation -/
def pr (f : (Int32 → SI → SJ → Prop) → SI → SJ → Prop) (r : (SI → SJ → Prop) → SI → SJ → Prop) (I : SI) (J : SJ) (A : SI) (B : SJ) : Prop :=
  ∃ (v : Int32) (I' : SI) (J' : SJ) (A' : SI) (B' : SJ), gi f I J v I' J' ∧ go r A B A' B' ∧ jInv I' J' A' B' ∧ A' 0 0 = v
theorem pr_1 {f : (SI → SJ → Prop) → (Nat → SI → SJ → Prop) → SI → SJ → Prop} {r : (SI → SJ → Prop) → SI → SJ → Prop} {I : SI} {J : SJ} {A : SI} {B : SJ} {L : (Int32 → SI → SJ → Prop) → Nat → SI → SJ → Prop} {k : Nat} {c : Int32} (hI : jInv I J A B) (h : thr f r I J A B k c) (hL : ∀ (post : Int32 → SI → SJ → Prop), post c I J → L post k I J) : pr (fun post => f (fun I J => post 0 I J) (L post)) r I J A B :=
  ⟨c, I, J, xu A 0 0 c, B, fun post q => h.1 _ _ (hL post q), h.2, thr_inv hI c, xu_s _ _ _ _⟩
theorem pr_0 {f : (SI → SJ → Prop) → (Nat → SI → SJ → Prop) → SI → SJ → Prop} {r : (SI → SJ → Prop) → SI → SJ → Prop} {I : SI} {J : SJ} {A : SI} {B : SJ} {L : (Int32 → SI → SJ → Prop) → Nat → SI → SJ → Prop} {I' : SI} {J' : SJ} {A' : SI} {B' : SJ} (h : dbl f r I J A B I' J' A' B') (hI : jInv I' J' A' B') (z : A' 0 0 = 0) : pr (fun post => f (fun I J => post 0 I J) (L post)) r I J A B :=
  ⟨0, I', J', A', B', fun post q => h.1 _ _ q, h.2, hI, z⟩
theorem jInv.mob {m : Nat} (hm : m < 8) {I I' : SI} {J : SJ} {A A' : SI} {B : SJ} (h : jInv I J A B) (o : oM m I I' A A') (n : rMob m I' A') : jInv I' J A' B := ⟨o.mi hm h.1 n, o.sw hm h.2.1, o.tb h.2.2.1, o.tm h.2.2.2⟩
theorem oM.one (m k p : Nat) (hp : p ≠ 0 ∧ p ≠ 5 ∧ p ≠ 6 ∧ p ≠ 18 ∧ p < 24) (I A : SI) (v w : Int32) : oM m I (xu I (14 + m) k v) A (xu A p m w) :=
  oM.mk1 (fun o k h1 h2 h3 => by simp [xu_at, h1]) (fun o k h => by rw [xu_at, if_neg (by omega)])
theorem key_mob {m : Nat} {I A : SI} (h : rMob m I A) (v : Int32) : rMob m (xu I (14 + m) 4 v) (xu A 4 m v) := by
  obtain ⟨h1, h2, h3, h4, h5, h6, h7, h8, h9, h10⟩ := h
  exact ⟨by simpa [xu_at] using h1, by simp [xu_at], rCel_of h3 (by simp [xu_at]) (by simp [xu_at]), rSpk_of h4 (by simp [xu_at]) (by simp [xu_at]), rDrw_of h5 (by simp [xu_at]) (by simp [xu_at]) (by funext k; simp [xu_at]) (by funext k; simp [xu_at]), rPrs_of h6 (by simp [xu_at]) (by simp [xu_at]), rDo_of h7 (by simp [xu_at]) (by simp [xu_at]) (by simp [xu_at]) (by simp [xu_at]) (by simp [xu_at]) (by simp [xu_at]) (by simp [xu_at]), rGot_of h8 (by simp [xu_at]) (by simp [xu_at]) (by simp [xu_at]) (by simp [xu_at]) (by simp [xu_at]) (by simp [xu_at]) (by simp [xu_at]) (by simp [xu_at]), rTry_of h9 (by simp [xu_at]) (by simp [xu_at]) (by simp [xu_at]) (by simp [xu_at]), rMsg_of h10 (by simp [xu_at]) (by simp [xu_at]) (by simp [xu_at]) (by simp [xu_at]) (by simp [xu_at]) (by simp [xu_at]) (by simp [xu_at])⟩
theorem spk_mob {m : Nat} {I A : SI} (h : rMob m I A) {s : Nat} (hs : s < 2 ^ 19) : rMob m (xu I (14 + m) 5 (nI s)) (xu A 17 m (nI s)) := by
  obtain ⟨h1, h2, h3, h4, h5, h6, h7, h8, h9, h10⟩ := h
  exact ⟨by simpa [xu_at] using h1, by simpa [xu_at] using h2, rCel_of h3 (by simp [xu_at]) (by simp [xu_at]), ⟨s, hs, by simp [xu_at], by simp [xu_at]⟩, rDrw_of h5 (by simp [xu_at]) (by simp [xu_at]) (by funext k; simp [xu_at]) (by funext k; simp [xu_at]), rPrs_of h6 (by simp [xu_at]) (by simp [xu_at]), rDo_of h7 (by simp [xu_at]) (by simp [xu_at]) (by simp [xu_at]) (by simp [xu_at]) (by simp [xu_at]) (by simp [xu_at]) (by simp [xu_at]), rGot_of h8 (by simp [xu_at]) (by simp [xu_at]) (by simp [xu_at]) (by simp [xu_at]) (by simp [xu_at]) (by simp [xu_at]) (by simp [xu_at]) (by simp [xu_at]), rTry_of h9 (by simp [xu_at]) (by simp [xu_at]) (by simp [xu_at]) (by simp [xu_at]), rMsg_of h10 (by simp [xu_at]) (by simp [xu_at]) (by simp [xu_at]) (by simp [xu_at]) (by simp [xu_at]) (by simp [xu_at]) (by simp [xu_at])⟩
theorem prs_mob {m : Nat} {I A : SI} (h : rMob m I A) {v : Int32} (hv : v = -1 ∨ ∃ g, g < 4 ∧ v = nI g) : rMob m (xu I (14 + m) 7 v) (xu A 16 m v) := by
  obtain ⟨h1, h2, h3, h4, h5, h6, h7, h8, h9, h10⟩ := h
  exact ⟨by simpa [xu_at] using h1, by simpa [xu_at] using h2, rCel_of h3 (by simp [xu_at]) (by simp [xu_at]), rSpk_of h4 (by simp [xu_at]) (by simp [xu_at]), rDrw_of h5 (by simp [xu_at]) (by simp [xu_at]) (by funext k; simp [xu_at]) (by funext k; simp [xu_at]), ⟨by simp [xu_at], by rw [xu_s]; exact hv⟩, rDo_of h7 (by simp [xu_at]) (by simp [xu_at]) (by simp [xu_at]) (by simp [xu_at]) (by simp [xu_at]) (by simp [xu_at]) (by simp [xu_at]), rGot_of h8 (by simp [xu_at]) (by simp [xu_at]) (by simp [xu_at]) (by simp [xu_at]) (by simp [xu_at]) (by simp [xu_at]) (by simp [xu_at]) (by simp [xu_at]), rTry_of h9 (by simp [xu_at]) (by simp [xu_at]) (by simp [xu_at]) (by simp [xu_at]), rMsg_of h10 (by simp [xu_at]) (by simp [xu_at]) (by simp [xu_at]) (by simp [xu_at]) (by simp [xu_at]) (by simp [xu_at]) (by simp [xu_at])⟩
theorem cel_mob {m : Nat} {I A : SI} (h : rMob m I A) {v : Int32} (hv : v = -1 ∨ ∃ c, c < 3 ∧ v = nI c) (z : rDo m I A → A 13 m = 0) : rMob m (xu I (14 + m) 6 v) (xu A 3 m v) := by
  obtain ⟨h1, h2, h3, h4, h5, h6, h7, h8, h9, h10⟩ := h
  have zz := z h7
  refine ⟨by simpa [xu_at] using h1, by simpa [xu_at] using h2, ⟨by simp [xu_at], by rw [xu_s]; exact hv⟩, rSpk_of h4 (by simp [xu_at]) (by simp [xu_at]), rDrw_of h5 (by simp [xu_at]) (by simp [xu_at]) (by funext k; simp [xu_at]) (by funext k; simp [xu_at]), rPrs_of h6 (by simp [xu_at]) (by simp [xu_at]), ?_, rGot_of h8 (by simp [xu_at]) (by simp [xu_at]) (by simp [xu_at]) (by simp [xu_at]) (by simp [xu_at]) (by simp [xu_at]) (by simp [xu_at]) (by simp [xu_at]), rTry_of h9 (by simp [xu_at]) (by simp [xu_at]) (by simp [xu_at]) (by simp [xu_at]), rMsg_of h10 (by simp [xu_at]) (by simp [xu_at]) (by simp [xu_at]) (by simp [xu_at]) (by simp [xu_at]) (by simp [xu_at]) (by simp [xu_at])⟩
  rcases h7 with ⟨a, b, c, d⟩ | ⟨d, g, hd, hg, d1, _⟩
  · exact Or.inl ⟨by simpa [xu_at] using a, by simpa [xu_at] using b, by simpa [xu_at] using c, by simpa [xu_at] using d⟩
  · exfalso
    rw [d1] at zz
    rcases hd with rfl | rfl <;> exact absurd zz (by decide)
theorem drw_mob {m : Nat} {I A : SI} (h : rMob m I A) {n : Nat} (hn : n < 8) (n1 : I (14 + m) 3 = nI n) (v : Int32) : rMob m (xu (xu I (30 + m) n v) (14 + m) 3 (nI (n + 1))) (xu (xu A 18 (8 * m + n) v) 19 m (nI (n + 1))) := by
  obtain ⟨h1, h2, h3, h4, ⟨q, hq, q1, q2, q3⟩, h6, h7, h8, h9, h10⟩ := h
  have e : q = n := (nI_eq (by omega) (by omega)).mp (q1.symm.trans n1)
  subst e
  refine ⟨by simpa [xu_at] using h1, by simpa [xu_at] using h2, rCel_of h3 (by simp [xu_at]) (by simp [xu_at]), rSpk_of h4 (by simp [xu_at]) (by simp [xu_at]), ⟨q + 1, by omega, xu_s _ _ _ _, xu_s _ _ _ _, fun k hk => ?_⟩, rPrs_of h6 (by simp [xu_at]) (by simp [xu_at]), rDo_of h7 (by simp [xu_at]) (by simp [xu_at]) (by simp [xu_at]) (by simp [xu_at]) (by simp [xu_at]) (by simp [xu_at]) (by simp [xu_at]), rGot_of h8 (by simp [xu_at]) (by simp [xu_at]) (by simp [xu_at]) (by simp [xu_at]) (by simp [xu_at]) (by simp [xu_at]) (by simp [xu_at]) (by simp [xu_at]), rTry_of h9 (by simp [xu_at]) (by simp [xu_at]) (by simp [xu_at]) (by simp [xu_at]), rMsg_of h10 (by simp [xu_at]) (by simp [xu_at]) (by simp [xu_at]) (by simp [xu_at]) (by simp [xu_at]) (by simp [xu_at]) (by simp [xu_at])⟩
  rw [xu_o _ _ _ (show 30 + m ≠ 14 + m by omega), xu_o _ _ _ (show 18 ≠ 19 by decide)]
  by_cases ek : k = q
  · subst ek
    rw [xu_s, xu_s]
  · rw [xu_k _ _ _ ek, xu_k _ _ _ (by omega)]
    exact q3 k (by omega)
def mBeg (A : SI) (m : Nat) (k w r : Int32) : SI := xu (xu (xu (xu (xu A 7 m k) 8 m w) 9 m r) 10 m 0) 11 m 0
theorem beg_mob {m : Nat} {I A : SI} (h : rMob m I A) {k w r : Nat} (k0 : 0 < k) (k4 : k < 4) (w16 : w < 16) (r512 : r < 512) (k1 : k = 1 → w = 0 ∧ r = 0) : rMob m (cPut I m (nI (blk k m w r))) (mBeg A m (nI k) (nI w) (nI r)) := by
  obtain ⟨h1, h2, h3, h4, h5, h6, h7, h8, h9, h10⟩ := h
  refine ⟨by simpa [cPut, xu_at] using h1, by simpa [cPut, mBeg, xu_at] using h2, rCel_of h3 (by simp [cPut, xu_at]) (by simp [mBeg, xu_at]), rSpk_of h4 (by simp [cPut, xu_at]) (by simp [mBeg, xu_at]), rDrw_of h5 (by simp [cPut, xu_at]) (by simp [mBeg, xu_at]) (by funext k; simp [cPut, xu_at]) (by funext k; simp [mBeg, xu_at]), rPrs_of h6 (by simp [cPut, xu_at]) (by simp [mBeg, xu_at]), rDo_of h7 (by simp [cPut, xu_at]) (by simp [cPut, xu_at]) (by simp [cPut, xu_at]) (by simp [mBeg, xu_at]) (by simp [mBeg, xu_at]) (by simp [mBeg, xu_at]) (by simp [mBeg, xu_at]), rGot_of h8 (by simp [cPut, xu_at]) (by simp [cPut, xu_at]) (by simp [cPut, xu_at]) (by simp [cPut, xu_at]) (by simp [mBeg, xu_at]) (by simp [mBeg, xu_at]) (by simp [mBeg, xu_at]) (by simp [mBeg, xu_at]), ⟨⟨0, by decide, by simp [cPut, xu_at, nI_0], by simp [mBeg, xu_at, nI_0]⟩, by simp [cPut, mBeg, xu_at]⟩, ⟨k, w, r, k4, w16, r512, by simp [mBeg, xu_at], fun e => by omega, fun _ => ⟨by simp [mBeg, xu_at], by simp [mBeg, xu_at], by simp [cPut, xu_at], k1⟩⟩⟩
theorem oM.beg (m : Nat) (I A : SI) (b k w r : Int32) : oM m I (cPut I m b) A (mBeg A m k w r) :=
  oM.mk1 (fun o k h1 h2 h3 => by simp [cPut, xu_at, h2]) (fun o q h => by
    unfold mBeg
    rw [xu_at, if_neg (by omega), xu_at, if_neg (by omega), xu_at, if_neg (by omega), xu_at, if_neg (by omega), xu_at, if_neg (by omega)])
theorem s_Md_begin {m : Nat} (hm : m < 8) {k w r : Int32} {post : SI → SJ → Prop} {A : SI} {B : SJ} (h : post (mBeg A m k w r) B) : p_Md_begin (nI m) k w r post A B := by
  refine ⟨m, rfl, hm, fun I2 e2 => ⟨m, rfl, hm, fun I4 e4 => ⟨m, rfl, hm, fun I6 e6 => ⟨m, rfl, hm, fun I8 e8 => ⟨m, rfl, hm, fun I10 e10 => ?_⟩⟩⟩⟩⟩
  subst e2; subst e4; subst e6; subst e8; subst e10
  exact h
/-- whether a mobile has room for a message -/
def free1 (m : Nat) (A : SI) : Prop := ¬ A 3 m < 0 ∧ A 7 m ≤ 0
theorem room_C {m : Nat} (hm : m < 8) {I A : SI} {J : SJ} (h : rMob m I A) {post : Prop} {exc : Nat → Prop} (h1 : free1 m A → post) (h0 : ¬ free1 m A → exc 2) : pn_TC_needRoomForMessage m post exc I J := by
  obtain ⟨_, _, ⟨c1, c2⟩, _, _, _, _, _, _, ⟨k, w, r, k4, w16, r512, e7, k0, kn⟩⟩ := h
  have lt : A 3 m < 0 ↔ A 3 m = -1 := by
    rcases c2 with e | ⟨c, hc, e⟩
    · rw [e]
      decide
    · rw [e]
      have : ∀ c, c < 3 → (nI c < 0 ↔ nI c = (-1 : Int32)) := by decide +kernel
      exact this c hc
  have bz : I (22 + m) 0 = 0 ↔ A 7 m ≤ 0 := by
    by_cases z : k = 0
    · subst z
      exact ⟨fun _ => by rw [e7]; decide, fun _ => (k0 rfl).1⟩
    · constructor
      · intro e
        rw [(kn z).2.2.1] at e
        exact absurd e (nI_ne0 (by unfold blk; omega) (Nat.lt_trans (blk_lt (by omega) hm w16 r512) (by decide)))
      · intro e
        rw [e7] at e
        exact absurd e (nI_nle (by omega) (by omega))
  refine ⟨fun e => h0 (fun f => f.1 (lt.mpr (c1.symm.trans e))), fun n => ⟨fun e => ⟨fun _ => h1 ⟨fun l => n (c1.trans (lt.mp l)), bz.mp e⟩, fun n2 => absurd rfl n2⟩, fun n2 => ⟨fun e => absurd e (by decide), fun _ => h0 (fun f => n2 (bz.mpr f.2))⟩⟩⟩
