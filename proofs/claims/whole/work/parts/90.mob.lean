/-! a mobile is told -/
theorem xu_at (F : SI) (o k : Nat) (v : Int32) (a b : Nat) : xu F o k v a b = if a = o ∧ b = k then v else F a b := by
  by_cases e : a = o
  · subst e
    by_cases e2 : b = k
    · subst e2
      rw [xu_s, if_pos ⟨rfl, rfl⟩]
    · rw [xu_k _ _ _ e2, if_neg (fun h => e2 h.2)]
  · rw [xu_o _ _ _ e, if_neg (fun h => e h.1)]
theorem xu_id {F : SI} {o k : Nat} {v : Int32} (h : F o k = v) : xu F o k v = F := by
  funext a b
  rw [xu_at]
  split
  · rename_i e
    rw [e.1, e.2, h]
  · rfl
theorem rCel_of {m : Nat} {I I' A A' : SI} (h : rCel m I A) (e1 : I' (14 + m) 6 = I (14 + m) 6) (e2 : A' 3 m = A 3 m) : rCel m I' A' := by
  unfold rCel
  rw [e1, e2]
  exact h
theorem rSpk_of {m : Nat} {I I' A A' : SI} (h : rSpk m I A) (e1 : I' (14 + m) 5 = I (14 + m) 5) (e2 : A' 17 m = A 17 m) : rSpk m I' A' := by
  unfold rSpk
  rw [e1, e2]
  exact h
theorem rDrw_of {m : Nat} {I I' A A' : SI} (h : rDrw m I A) (e1 : I' (14 + m) 3 = I (14 + m) 3) (e2 : A' 19 m = A 19 m) (e3 : I' (30 + m) = I (30 + m)) (e4 : A' 18 = A 18) : rDrw m I' A' := by
  unfold rDrw
  rw [e1, e2, e3, e4]
  exact h
theorem rPrs_of {m : Nat} {I I' A A' : SI} (h : rPrs m I A) (e1 : I' (14 + m) 7 = I (14 + m) 7) (e2 : A' 16 m = A 16 m) : rPrs m I' A' := by
  unfold rPrs
  rw [e1, e2]
  exact h
theorem rDo_of {m : Nat} {I I' A A' : SI} (h : rDo m I A) (e1 : I' (14 + m) 8 = I (14 + m) 8) (e2 : I' (14 + m) 9 = I (14 + m) 9) (e3 : I' (14 + m) 10 = I (14 + m) 10) (a1 : A' 13 m = A 13 m) (a2 : A' 14 m = A 14 m) (a3 : A' 15 m = A 15 m) (a4 : A' 3 m = A 3 m) : rDo m I' A' := by
  unfold rDo
  rw [e1, e2, e3, a1, a2, a3, a4]
  exact h
theorem rGot_of {m : Nat} {I I' A A' : SI} (h : rGot m I A) (e1 : I' (14 + m) 11 = I (14 + m) 11) (e2 : I' (14 + m) 12 = I (14 + m) 12) (e3 : I' (14 + m) 13 = I (14 + m) 13) (e4 : I' (14 + m) 14 = I (14 + m) 14) (a1 : A' 20 m = A 20 m) (a2 : A' 21 m = A 21 m) (a3 : A' 22 m = A 22 m) (a4 : A' 23 m = A 23 m) : rGot m I' A' := by
  unfold rGot
  rw [e1, e2, e3, e4, a1, a2, a3, a4]
  exact h
theorem rTry_of {m : Nat} {I I' A A' : SI} (h : rTry m I A) (e1 : I' (22 + m) 1 = I (22 + m) 1) (e2 : I' (22 + m) 2 = I (22 + m) 2) (a1 : A' 10 m = A 10 m) (a2 : A' 11 m = A 11 m) : rTry m I' A' := by
  unfold rTry
  rw [e1, e2, a1, a2]
  exact h
theorem rMsg_of {m : Nat} {I I' A A' : SI} (h : rMsg m I A) (e1 : I' (22 + m) 0 = I (22 + m) 0) (e2 : I' (22 + m) 3 = I (22 + m) 3) (a1 : A' 7 m = A 7 m) (a2 : A' 8 m = A 8 m) (a3 : A' 9 m = A 9 m) (a4 : A' 10 m = A 10 m) (a5 : A' 11 m = A 11 m) : rMsg m I' A' := by
  unfold rMsg
  rw [e1, e2, a1, a2, a3, a4, a5]
  exact h
theorem rMsg_0 {m : Nat} {I A : SI} (a7 : A 7 m = 0) (a10 : A 10 m = 0) (a11 : A 11 m = 0) (i0 : I (22 + m) 0 = 0) (i3 : I (22 + m) 3 = 0) : rMsg m I A := ⟨0, 0, 0, by decide, by decide, by decide, a7, fun _ => ⟨i0, i3, a10, a11⟩, fun h => absurd rfl h⟩
theorem drop_mob {m : Nat} {I A : SI} (h : rMob m I A) : rMob m (cPut I m 0) (mNo A m) := by
  obtain ⟨h1, h2, h3, h4, h5, h6, h7, h8, h9, h10⟩ := h
  refine ⟨by simpa [cPut, xu_at] using h1, by simpa [cPut, mNo, xu_at] using h2, rCel_of h3 (by simp [cPut, xu_at]) (by simp [mNo, xu_at]), rSpk_of h4 (by simp [cPut, xu_at]) (by simp [mNo, xu_at]), rDrw_of h5 (by simp [cPut, xu_at]) (by simp [mNo, xu_at]) (by funext k; simp [cPut, xu_at]) (by funext k; simp [mNo, xu_at]), rPrs_of h6 (by simp [cPut, xu_at]) (by simp [mNo, xu_at]), rDo_of h7 (by simp [cPut, xu_at]) (by simp [cPut, xu_at]) (by simp [cPut, xu_at]) (by simp [mNo, xu_at]) (by simp [mNo, xu_at]) (by simp [mNo, xu_at]) (by simp [mNo, xu_at]), rGot_of h8 (by simp [cPut, xu_at]) (by simp [cPut, xu_at]) (by simp [cPut, xu_at]) (by simp [cPut, xu_at]) (by simp [mNo, xu_at]) (by simp [mNo, xu_at]) (by simp [mNo, xu_at]) (by simp [mNo, xu_at]), ⟨⟨0, by decide, by simp [cPut, xu_at, nI_0], by simp [mNo, xu_at, nI_0]⟩, by simp [cPut, mNo, xu_at]⟩, rMsg_0 (by simp [mNo, xu_at]) (by simp [mNo, xu_at]) (by simp [mNo, xu_at]) (by simp [cPut, xu_at]) (by simp [cPut, xu_at])⟩
def cJoin (I : SI) (m : Nat) (d l g : Int32) : SI := xu (xu (xu I (14 + m) 8 d) (14 + m) 9 l) (14 + m) 10 g
def mJoin (A : SI) (m : Nat) (d l g : Int32) : SI := xu (xu (xu A 13 m d) 14 m l) 15 m g
theorem join_mob {m : Nat} {I A : SI} (h : rMob m I A) {d g c : Nat} {l : Int32} (hd : d = 1 ∨ d = 2) (hg : g < 4) (hc : c < 3) (ec : A 3 m = nI c) : rMob m (cJoin I m (nI d) l (nI g)) (mJoin A m (nI d) l (nI g)) := by
  obtain ⟨h1, h2, h3, h4, h5, h6, h7, h8, h9, h10⟩ := h
  refine ⟨by simpa [cJoin, xu_at] using h1, by simpa [cJoin, mJoin, xu_at] using h2, rCel_of h3 (by simp [cJoin, xu_at]) (by simp [mJoin, xu_at]), rSpk_of h4 (by simp [cJoin, xu_at]) (by simp [mJoin, xu_at]), rDrw_of h5 (by simp [cJoin, xu_at]) (by simp [mJoin, xu_at]) (by funext k; simp [cJoin, xu_at]) (by funext k; simp [mJoin, xu_at]), rPrs_of h6 (by simp [cJoin, xu_at]) (by simp [mJoin, xu_at]), Or.inr ⟨d, g, hd, hg, by simp [mJoin, xu_at], by simp [cJoin, xu_at], by simp [cJoin, mJoin, xu_at], by simp [mJoin, xu_at], by simp [cJoin, xu_at], c, hc, by simpa [mJoin, xu_at] using ec⟩, rGot_of h8 (by simp [cJoin, xu_at]) (by simp [cJoin, xu_at]) (by simp [cJoin, xu_at]) (by simp [cJoin, xu_at]) (by simp [mJoin, xu_at]) (by simp [mJoin, xu_at]) (by simp [mJoin, xu_at]) (by simp [mJoin, xu_at]), rTry_of h9 (by simp [cJoin, xu_at]) (by simp [cJoin, xu_at]) (by simp [mJoin, xu_at]) (by simp [mJoin, xu_at]), rMsg_of h10 (by simp [cJoin, xu_at]) (by simp [cJoin, xu_at]) (by simp [mJoin, xu_at]) (by simp [mJoin, xu_at]) (by simp [mJoin, xu_at]) (by simp [mJoin, xu_at]) (by simp [mJoin, xu_at])⟩
theorem idle_mob {m : Nat} {I A : SI} (h : rMob m I A) : rMob m (cIdle I m) (mIdle A m) := by
  obtain ⟨h1, h2, h3, h4, h5, h6, h7, h8, h9, h10⟩ := h
  refine ⟨by simpa [cIdle, xu_at] using h1, by simpa [cIdle, mIdle, xu_at] using h2, rCel_of h3 (by simp [cIdle, xu_at]) (by simp [mIdle, xu_at]), rSpk_of h4 (by simp [cIdle, xu_at]) (by simp [mIdle, xu_at]), rDrw_of h5 (by simp [cIdle, xu_at]) (by simp [mIdle, xu_at]) (by funext k; simp [cIdle, xu_at]) (by funext k; simp [mIdle, xu_at]), rPrs_of h6 (by simp [cIdle, xu_at]) (by simp [mIdle, xu_at]), Or.inl ⟨by simp [mIdle, xu_at], by simp [cIdle, xu_at], by simp [cIdle, xu_at], by simp [cIdle, xu_at]⟩, rGot_of h8 (by simp [cIdle, xu_at]) (by simp [cIdle, xu_at]) (by simp [cIdle, xu_at]) (by simp [cIdle, xu_at]) (by simp [mIdle, xu_at]) (by simp [mIdle, xu_at]) (by simp [mIdle, xu_at]) (by simp [mIdle, xu_at]), rTry_of h9 (by simp [cIdle, xu_at]) (by simp [cIdle, xu_at]) (by simp [mIdle, xu_at]) (by simp [mIdle, xu_at]), rMsg_of h10 (by simp [cIdle, xu_at]) (by simp [cIdle, xu_at]) (by simp [mIdle, xu_at]) (by simp [mIdle, xu_at]) (by simp [mIdle, xu_at]) (by simp [mIdle, xu_at]) (by simp [mIdle, xu_at])⟩
def cGot (I : SI) (m : Nat) (v : Int32) : SI := xu (xu I (14 + m) 13 (I (14 + m) 13 + 1)) (14 + m) 14 v
def mGot (A : SI) (m : Nat) (v : Int32) : SI := xu (xu A 22 m (A 22 m + 1)) 23 m v
theorem got_mob {m : Nat} {I A : SI} (h : rMob m I A) (v : Int32) : rMob m (cGot I m v) (mGot A m v) := by
  obtain ⟨h1, h2, h3, h4, h5, h6, h7, h8, h9, h10⟩ := h
  refine ⟨by simpa [cGot, xu_at] using h1, by simpa [cGot, mGot, xu_at] using h2, rCel_of h3 (by simp [cGot, xu_at]) (by simp [mGot, xu_at]), rSpk_of h4 (by simp [cGot, xu_at]) (by simp [mGot, xu_at]), rDrw_of h5 (by simp [cGot, xu_at]) (by simp [mGot, xu_at]) (by funext k; simp [cGot, xu_at]) (by funext k; simp [mGot, xu_at]), rPrs_of h6 (by simp [cGot, xu_at]) (by simp [mGot, xu_at]), rDo_of h7 (by simp [cGot, xu_at]) (by simp [cGot, xu_at]) (by simp [cGot, xu_at]) (by simp [mGot, xu_at]) (by simp [mGot, xu_at]) (by simp [mGot, xu_at]) (by simp [mGot, xu_at]), ?_, rTry_of h9 (by simp [cGot, xu_at]) (by simp [cGot, xu_at]) (by simp [mGot, xu_at]) (by simp [mGot, xu_at]), rMsg_of h10 (by simp [cGot, xu_at]) (by simp [cGot, xu_at]) (by simp [mGot, xu_at]) (by simp [mGot, xu_at]) (by simp [mGot, xu_at]) (by simp [mGot, xu_at]) (by simp [mGot, xu_at])⟩
  obtain ⟨p1, p2, p3, p4⟩ := h8
  exact ⟨by simpa [cGot, mGot, xu_at] using p1, by simpa [cGot, mGot, xu_at] using p2, by simp [cGot, mGot, xu_at, p3], by simp [cGot, mGot, xu_at]⟩
/-- a change of mobile m's cells alone -/
theorem oM.mk1 {m : Nat} {I I' A A' : SI} (i : ∀ o k, o ≠ 14 + m → o ≠ 22 + m → o ≠ 30 + m → I' o k = I o k) (a : ∀ o k, o = 0 ∨ o = 5 ∨ o = 6 ∨ o = 18 ∨ 24 ≤ o ∨ k ≠ m → A' o k = A o k) : oM m I I' A A' :=
  ⟨fun o h1 h2 h3 => funext (fun k => i o k h1 h2 h3), fun o k _ _ _ _ hk => a o k (by omega), fun k _ => a 18 k (by omega), fun o ho => funext (fun k => a o k (by omega)), fun k _ => a 0 k (by omega)⟩
theorem oM.drop (m : Nat) (I A : SI) : oM m I (cPut I m 0) A (mNo A m) :=
  oM.mk1 (fun o k h1 h2 h3 => by simp [cPut, xu_at, h2]) (fun o k h => by
    unfold mNo
    rw [xu_at, if_neg (by omega), xu_at, if_neg (by omega), xu_at, if_neg (by omega)])
theorem oM.join (m : Nat) (I A : SI) (d l g : Int32) : oM m I (cJoin I m d l g) A (mJoin A m d l g) :=
  oM.mk1 (fun o k h1 h2 h3 => by simp [cJoin, xu_at, h1]) (fun o k h => by
    unfold mJoin
    rw [xu_at, if_neg (by omega), xu_at, if_neg (by omega), xu_at, if_neg (by omega)])
theorem oM.idle (m : Nat) (I A : SI) : oM m I (cIdle I m) A (mIdle A m) :=
  oM.mk1 (fun o k h1 h2 h3 => by simp [cIdle, xu_at, h1]) (fun o k h => by
    unfold mIdle
    rw [xu_at, if_neg (by omega)])
theorem oM.got (m : Nat) (I A : SI) (v w : Int32) : oM m I (cGot I m v) A (mGot A m w) :=
  oM.mk1 (fun o k h1 h2 h3 => by simp [cGot, xu_at, h1]) (fun o k h => by
    unfold mGot
    rw [xu_at, if_neg (by omega), xu_at, if_neg (by omega)])
