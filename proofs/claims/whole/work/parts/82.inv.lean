/-! the relation as a whole. (I, J): the class's state; (A, B): the reference's -/
def go (f : (SI → SJ → Prop) → SI → SJ → Prop) (I : SI) (J : SJ) (I' : SI) (J' : SJ) : Prop := ∀ post : SI → SJ → Prop, post I' J' → f post I J
def gi {V : Type} (f : (V → SI → SJ → Prop) → SI → SJ → Prop) (I : SI) (J : SJ) (v : V) (I' : SI) (J' : SJ) : Prop := ∀ post : V → SI → SJ → Prop, post v I' J' → f post I J
/-- a mobile's message: its kind, what it is about, its rest -/
def rMsg (m : Nat) (I A : SI) : Prop := ∃ k w r, k < 4 ∧ w < 16 ∧ r < 512 ∧ A 7 m = nI k ∧ (k = 0 → I (22 + m) 0 = 0 ∧ I (22 + m) 3 = 0 ∧ A 10 m = 0 ∧ A 11 m = 0) ∧ (k ≠ 0 → A 8 m = nI w ∧ A 9 m = nI r ∧ I (22 + m) 0 = nI (blk k m w r) ∧ (k = 1 → w = 0 ∧ r = 0))
/-- what a mobile does -/
def rDo (m : Nat) (I A : SI) : Prop := (A 13 m = 0 ∧ I (14 + m) 8 = 0 ∧ I (14 + m) 9 = -1 ∧ I (14 + m) 10 = -1) ∨ (∃ d g, (d = 1 ∨ d = 2) ∧ g < 4 ∧ A 13 m = nI d ∧ I (14 + m) 8 = nI d ∧ I (14 + m) 9 = A 14 m ∧ A 15 m = nI g ∧ I (14 + m) 10 = nI g ∧ ∃ c, c < 3 ∧ A 3 m = nI c)
def rCel (m : Nat) (I A : SI) : Prop := I (14 + m) 6 = A 3 m ∧ (A 3 m = -1 ∨ ∃ c, c < 3 ∧ A 3 m = nI c)
def rSpk (m : Nat) (I A : SI) : Prop := ∃ s, s < 2 ^ 19 ∧ I (14 + m) 5 = nI s ∧ A 17 m = nI s
def rDrw (m : Nat) (I A : SI) : Prop := ∃ n, n ≤ 8 ∧ I (14 + m) 3 = nI n ∧ A 19 m = nI n ∧ ∀ k, k < n → I (30 + m) k = A 18 (8 * m + k)
def rPrs (m : Nat) (I A : SI) : Prop := I (14 + m) 7 = A 16 m ∧ (A 16 m = -1 ∨ ∃ g, g < 4 ∧ A 16 m = nI g)
def rGot (m : Nat) (I A : SI) : Prop := I (14 + m) 11 = A 20 m ∧ I (14 + m) 12 = A 21 m ∧ I (14 + m) 13 = A 22 m ∧ I (14 + m) 14 = A 23 m
def rTry (m : Nat) (I A : SI) : Prop := (∃ t, t < 5 ∧ I (22 + m) 1 = nI t ∧ A 10 m = nI t) ∧ I (22 + m) 2 = A 11 m
def rMob (m : Nat) (I A : SI) : Prop := I (14 + m) 0 = nI m ∧ I (14 + m) 4 = A 4 m ∧ rCel m I A ∧ rSpk m I A ∧ rDrw m I A ∧ rPrs m I A ∧ rDo m I A ∧ rGot m I A ∧ rTry m I A ∧ rMsg m I A
/-- what the switch keeps of a mobile -/
def rPl (m : Nat) (I A : SI) : Prop := I 7 m = A 5 m ∧ (I 8 m = A 24 m ∧ (A 24 m = -1 ∨ ∃ c, c < 3 ∧ A 24 m = nI c)) ∧ ∃ x, x < 16 ∧ I 9 m = nI x ∧ A 6 m = nI x
/-- of a group -/
def rRw (g : Nat) (I A : SI) : Prop := ∃ n, n ≤ 6 ∧ I (38 + g) 1 = nI n ∧ A 31 g = nI n ∧ ∀ k, k < n → ∃ b, b < 32 ∧ I (42 + g) k = nI b ∧ A 30 (6 * g + k) = nI b
def rCl (g : Nat) (I A : SI) : Prop := (A 27 g = 0 ∧ I (38 + g) 3 = -1 ∧ I (38 + g) 4 = -1 ∧ I (38 + g) 5 = -1) ∨ (∃ c h, 0 < c ∧ c < 4 ∧ h < 8 ∧ A 27 g = nI c ∧ I (38 + g) 3 = nI c ∧ A 28 g = nI h ∧ I (38 + g) 4 = nI h ∧ I (38 + g) 5 = A 29 g)
def rGrp (g : Nat) (I A : SI) : Prop := I (38 + g) 2 = A 26 g ∧ rRw g I A ∧ rCl g I A
/-- of a cell -/
def rSy (c : Nat) (I A : SI) : Prop := ∃ n, n ≤ 8 ∧ I (46 + c) 1 = nI n ∧ A 33 c = nI n ∧ ∀ k, k < n → ∃ b, b < 2 ^ 20 ∧ I (49 + c) k = nI b ∧ A 32 (9 * c + k) = nI b
def rFl (J B : SJ) : Prop := ∀ j, j < 11 → ∃ F, F < 2 ^ 54 ∧ J 13 j = lN F ∧ B 25 j = lN F
def rTm (I A : SI) : Prop := ∃ t, t ≤ 1000000000 ∧ I 0 4 = nI t ∧ A 0 36 = nI t
def MI (I A : SI) : Prop := ∀ m, m < 8 → rMob m I A
def SW (I A : SI) : Prop := (∀ m, m < 8 → rPl m I A) ∧ (∀ g, g < 4 → rGrp g I A) ∧ (∀ c, c < 3 → rSy c I A)
def TB (I : SI) (J B : SJ) : Prop := hSum I ∧ hCol J ∧ rFl J B
def jInv (I : SI) (J : SJ) (A : SI) (B : SJ) : Prop := MI I A ∧ SW I A ∧ TB I J B ∧ rTm I A
/- what stays as it was -/
theorem rMob_of {m : Nat} {I I' A A' : SI} (h : rMob m I A) (e1 : I' (14 + m) = I (14 + m)) (e2 : I' (22 + m) = I (22 + m)) (e3 : I' (30 + m) = I (30 + m)) (eA : ∀ o, 3 ≤ o → o ≤ 23 → o ≠ 18 → o ≠ 5 → o ≠ 6 → o ≠ 12 → A' o m = A o m) (eD : ∀ k, k < 8 → A' 18 (8 * m + k) = A 18 (8 * m + k)) : rMob m I' A' := by
  obtain ⟨h1, h2, h3, h4, ⟨n, hn, n1, n2, n3⟩, h6, h7, h8, h9, h10⟩ := h
  have d : rDrw m I' A' := ⟨n, hn, by rw [e1]; exact n1, by rw [eA 19 (by decide) (by decide) (by decide) (by decide) (by decide) (by decide)]; exact n2, fun k hk => by rw [e3, eD k (by omega)]; exact n3 k hk⟩
  have a : ∀ o, (3 ≤ o ∧ o ≤ 23 ∧ o ≠ 18 ∧ o ≠ 5 ∧ o ≠ 6 ∧ o ≠ 12) → A' o m = A o m := fun o ho => eA o ho.1 ho.2.1 ho.2.2.1 ho.2.2.2.1 ho.2.2.2.2.1 ho.2.2.2.2.2
  refine ⟨by rw [e1]; exact h1, by rw [e1, a 4 (by decide)]; exact h2, ?_, ?_, d, ?_, ?_, ?_, ?_, ?_⟩
  · unfold rCel
    rw [e1, a 3 (by decide)]
    exact h3
  · unfold rSpk
    rw [e1, a 17 (by decide)]
    exact h4
  · unfold rPrs
    rw [e1, a 16 (by decide)]
    exact h6
  · unfold rDo
    rw [e1, a 13 (by decide), a 14 (by decide), a 15 (by decide), a 3 (by decide)]
    exact h7
  · unfold rGot
    rw [e1, a 20 (by decide), a 21 (by decide), a 22 (by decide), a 23 (by decide)]
    exact h8
  · unfold rTry
    rw [e2, a 10 (by decide), a 11 (by decide)]
    exact h9
  · unfold rMsg
    rw [e2, a 7 (by decide), a 8 (by decide), a 9 (by decide), a 10 (by decide), a 11 (by decide)]
    exact h10
theorem rGrp_of {g : Nat} {I I' A A' : SI} (h : rGrp g I A) (e1 : I' (38 + g) = I (38 + g)) (e2 : I' (42 + g) = I (42 + g)) (eA : ∀ o, 26 ≤ o → o ≤ 31 → o ≠ 30 → A' o g = A o g) (eD : ∀ k, k < 6 → A' 30 (6 * g + k) = A 30 (6 * g + k)) : rGrp g I' A' := by
  obtain ⟨h1, ⟨n, hn, n1, n2, n3⟩, h3⟩ := h
  refine ⟨by rw [e1, eA 26 (by decide) (by decide) (by decide)]; exact h1, ⟨n, hn, by rw [e1]; exact n1, by rw [eA 31 (by decide) (by decide) (by decide)]; exact n2, fun k hk => by rw [e2, eD k (by omega)]; exact n3 k hk⟩, ?_⟩
  unfold rCl
  rw [e1, eA 27 (by decide) (by decide) (by decide), eA 28 (by decide) (by decide) (by decide), eA 29 (by decide) (by decide) (by decide)]
  exact h3
theorem rSy_of {c : Nat} {I I' A A' : SI} (h : rSy c I A) (e1 : I' (46 + c) = I (46 + c)) (e2 : I' (49 + c) = I (49 + c)) (eA : A' 33 c = A 33 c) (eD : ∀ k, k < 8 → A' 32 (9 * c + k) = A 32 (9 * c + k)) : rSy c I' A' := by
  obtain ⟨n, hn, n1, n2, n3⟩ := h
  exact ⟨n, hn, by rw [e1]; exact n1, by rw [eA]; exact n2, fun k hk => by rw [e2, eD k (by omega)]; exact n3 k hk⟩
theorem rPl_of {m : Nat} {I I' A A' : SI} (h : rPl m I A) (e7 : I' 7 m = I 7 m) (e8 : I' 8 m = I 8 m) (e9 : I' 9 m = I 9 m) (a5 : A' 5 m = A 5 m) (a6 : A' 6 m = A 6 m) (a24 : A' 24 m = A 24 m) : rPl m I' A' := by
  unfold rPl
  rw [e7, e8, e9, a5, a6, a24]
  exact h
/-- the switch's own doing leaves the mobiles -/
def fS (I I' A A' : SI) : Prop := (∀ o, o < 38 → o ≠ 8 → I' o = I o) ∧ (∀ o, o < 24 → A' o = A o)
theorem fS.refl (I A : SI) : fS I I A A := ⟨fun _ _ _ => rfl, fun _ _ => rfl⟩
theorem fS.trans {I I1 I2 A A1 A2 : SI} (h : fS I I1 A A1) (k : fS I1 I2 A1 A2) : fS I I2 A A2 := ⟨fun o a b => (k.1 o a b).trans (h.1 o a b), fun o a => (k.2 o a).trans (h.2 o a)⟩
theorem fS.mi {I I' A A' : SI} (h : fS I I' A A') (k : MI I A) : MI I' A' := fun m hm =>
  rMob_of (k m hm) (h.1 _ (by omega) (by omega)) (h.1 _ (by omega) (by omega)) (h.1 _ (by omega) (by omega)) (fun o _ _ _ _ _ _ => by rw [h.2 o (by omega)]) (fun k _ => by rw [h.2 18 (by decide)])
theorem fS.tm {I I' A A' : SI} (h : fS I I' A A') (k : rTm I A) : rTm I' A' := by
  unfold rTm
  rw [h.1 0 (by decide) (by decide), h.2 0 (by decide)]
  exact k
theorem fS.tb {I I' A A' : SI} {J B : SJ} (h : fS I I' A A') (k : TB I J B) : TB I' J B := ⟨hSum_of k.1 (h.1 3 (by decide) (by decide)), k.2⟩
/-- one mobile's doing leaves the others and the switch -/
def oM (m : Nat) (I I' A A' : SI) : Prop := (∀ o, o ≠ 14 + m → o ≠ 22 + m → o ≠ 30 + m → I' o = I o) ∧ (∀ o k, o ≠ 0 → o ≠ 1 → o ≠ 2 → o ≠ 18 → k ≠ m → A' o k = A o k) ∧ (∀ k, k < 8 * m ∨ 8 * m + 8 ≤ k → A' 18 k = A 18 k) ∧ (∀ o, o = 5 ∨ o = 6 ∨ 24 ≤ o → A' o = A o) ∧ (∀ k, k ≠ 4 → A' 0 k = A 0 k)
theorem oM.refl (m : Nat) (I A : SI) : oM m I I A A := ⟨fun _ _ _ _ => rfl, fun _ _ _ _ _ _ _ => rfl, fun _ _ => rfl, fun _ _ => rfl, fun _ _ => rfl⟩
theorem oM.trans {m : Nat} {I I1 I2 A A1 A2 : SI} (h : oM m I I1 A A1) (k : oM m I1 I2 A1 A2) : oM m I I2 A A2 :=
  ⟨fun o a b c => (k.1 o a b c).trans (h.1 o a b c), fun o q a b c d e => (k.2.1 o q a b c d e).trans (h.2.1 o q a b c d e), fun q a => (k.2.2.1 q a).trans (h.2.2.1 q a), fun o a => (k.2.2.2.1 o a).trans (h.2.2.2.1 o a), fun q a => (k.2.2.2.2 q a).trans (h.2.2.2.2 q a)⟩
theorem oM.mi {m : Nat} (hm : m < 8) {I I' A A' : SI} (h : oM m I I' A A') (k : MI I A) (n : rMob m I' A') : MI I' A' := by
  intro q hq
  by_cases e : q = m
  · subst e
    exact n
  · exact rMob_of (k q hq) (h.1 _ (by omega) (by omega) (by omega)) (h.1 _ (by omega) (by omega) (by omega)) (h.1 _ (by omega) (by omega) (by omega)) (fun o _ _ _ _ _ _ => h.2.1 o q (by omega) (by omega) (by omega) (by omega) e) (fun k hk => h.2.2.1 _ (by omega))
theorem oM.sw {m : Nat} (hm : m < 8) {I I' A A' : SI} (h : oM m I I' A A') (k : SW I A) : SW I' A' := by
  have i : ∀ o, (o < 14 ∨ 38 ≤ o) → I' o = I o := fun o ho => h.1 o (by omega) (by omega) (by omega)
  have a := h.2.2.2.1
  refine ⟨fun q hq => rPl_of (k.1 q hq) (by rw [i 7 (by decide)]) (by rw [i 8 (by decide)]) (by rw [i 9 (by decide)]) (by rw [a 5 (by decide)]) (by rw [a 6 (by decide)]) (by rw [a 24 (by decide)]), fun g hg => rGrp_of (k.2.1 g hg) (i _ (by omega)) (i _ (by omega)) (fun o _ _ _ => by rw [a o (by omega)]) (fun k _ => by rw [a 30 (by decide)]), fun c hc => rSy_of (k.2.2 c hc) (i _ (by omega)) (i _ (by omega)) (by rw [a 33 (by decide)]) (fun k _ => by rw [a 32 (by decide)])⟩
theorem oM.tm {m : Nat} {I I' A A' : SI} (h : oM m I I' A A') (k : rTm I A) : rTm I' A' := by
  unfold rTm
  rw [h.1 0 (by omega) (by omega) (by omega), h.2.2.2.2 36 (by decide)]
  exact k
theorem oM.hs {m : Nat} {I I' A A' : SI} (h : oM m I I' A A') (k : hSum I) : hSum I' := hSum_of k (h.1 3 (by omega) (by omega) (by omega))
theorem oM.tb {m : Nat} {I I' A A' : SI} {J B : SJ} (h : oM m I I' A A') (k : TB I J B) : TB I' J B := ⟨h.hs k.1, k.2⟩
/-- decoding leaves all but its own rows -/
def oA (A A' : SI) : Prop := (∀ o, o ≠ 0 → o ≠ 1 → o ≠ 2 → A' o = A o) ∧ (∀ k, k ≠ 4 → A' 0 k = A 0 k)
theorem oA.oM {A A' : SI} (h : oA A A') (m : Nat) (I : SI) : oM m I I A A' := ⟨fun _ _ _ _ => rfl, fun o k a b c _ _ => by rw [h.1 o a b c], fun k _ => by rw [h.1 18 (by decide) (by decide) (by decide)], fun o ho => h.1 o (by omega) (by omega) (by omega), h.2⟩
theorem oA.mob {A A' : SI} (h : oA A A') {m : Nat} {I : SI} (k : rMob m I A) : rMob m I A' := rMob_of k rfl rfl rfl (fun o _ _ _ _ _ _ => by rw [h.1 o (by omega) (by omega) (by omega)]) (fun k _ => by rw [h.1 18 (by decide) (by decide) (by decide)])
theorem oA.mi {A A' : SI} (h : oA A A') {I : SI} (k : MI I A) : MI I A' := fun m hm => h.mob (k m hm)
