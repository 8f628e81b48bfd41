/-! the coder's predicates name one end state each: what holds of all ends holds of one, and that one is enough -/
def Dt {V : Type} (X : (V → SI → SJ → Prop) → Prop) : Prop := ∀ post, X post → ∃ v I J, post v I J ∧ ∀ q : V → SI → SJ → Prop, q v I J → X q
def D0 (X : (SI → SJ → Prop) → Prop) : Prop := ∀ post, X post → ∃ I J, post I J ∧ ∀ q : SI → SJ → Prop, q I J → X q
theorem dt_post {V : Type} (v : V) (I : SI) (J : SJ) : Dt (fun post => post v I J) := fun _ h => ⟨v, I, J, h, fun _ k => k⟩
theorem d0_post (I : SI) (J : SJ) : D0 (fun post => post I J) := fun _ h => ⟨I, J, h, fun _ k => k⟩
theorem dt_false {V : Type} : Dt (V := V) (fun _ => False) := fun _ h => h.elim
theorem d0_false : D0 (fun _ => False) := fun _ h => h.elim
theorem dt_if {V : Type} {c : Prop} {X Y : (V → SI → SJ → Prop) → Prop} (hX : Dt X) (hY : Dt Y) : Dt (fun post => (c → X post) ∧ (¬ c → Y post)) := by
  intro post h
  by_cases hc : c
  · obtain ⟨v, I, J, a, b⟩ := hX post (h.1 hc)
    exact ⟨v, I, J, a, fun q k => ⟨fun _ => b q k, fun n => absurd hc n⟩⟩
  · obtain ⟨v, I, J, a, b⟩ := hY post (h.2 hc)
    exact ⟨v, I, J, a, fun q k => ⟨fun n => absurd n hc, fun _ => b q k⟩⟩
theorem dt_fi {V : Type} {c : Prop} {X Y : (V → SI → SJ → Prop) → Prop} (hX : Dt X) (hY : Dt Y) : Dt (fun post => (¬ c → X post) ∧ (c → Y post)) := by
  intro post h
  by_cases hc : c
  · obtain ⟨v, I, J, a, b⟩ := hY post (h.2 hc)
    exact ⟨v, I, J, a, fun q k => ⟨fun n => absurd hc n, fun _ => b q k⟩⟩
  · obtain ⟨v, I, J, a, b⟩ := hX post (h.1 hc)
    exact ⟨v, I, J, a, fun q k => ⟨fun _ => b q k, fun n => absurd n hc⟩⟩
theorem d0_if {c : Prop} {X Y : (SI → SJ → Prop) → Prop} (hX : D0 X) (hY : D0 Y) : D0 (fun post => (c → X post) ∧ (¬ c → Y post)) := by
  intro post h
  by_cases hc : c
  · obtain ⟨I, J, a, b⟩ := hX post (h.1 hc)
    exact ⟨I, J, a, fun q k => ⟨fun _ => b q k, fun n => absurd hc n⟩⟩
  · obtain ⟨I, J, a, b⟩ := hY post (h.2 hc)
    exact ⟨I, J, a, fun q k => ⟨fun n => absurd n hc, fun _ => b q k⟩⟩
theorem d0_fi {c : Prop} {X Y : (SI → SJ → Prop) → Prop} (hX : D0 X) (hY : D0 Y) : D0 (fun post => (¬ c → X post) ∧ (c → Y post)) := by
  intro post h
  by_cases hc : c
  · obtain ⟨I, J, a, b⟩ := hY post (h.2 hc)
    exact ⟨I, J, a, fun q k => ⟨fun n => absurd hc n, fun _ => b q k⟩⟩
  · obtain ⟨I, J, a, b⟩ := hX post (h.1 hc)
    exact ⟨I, J, a, fun q k => ⟨fun _ => b q k, fun n => absurd n hc⟩⟩
theorem dt_ex {V : Type} {a b : Nat → Prop} {X : Nat → (V → SI → SJ → Prop) → Prop} (hX : ∀ j, Dt (X j)) : Dt (fun post => ∃ j, a j ∧ b j ∧ X j post) := by
  intro post ⟨j, h1, h2, h3⟩
  obtain ⟨v, I, J, p, q⟩ := hX j post h3
  exact ⟨v, I, J, p, fun r k => ⟨j, h1, h2, q r k⟩⟩
theorem d0_ex {a b : Nat → Prop} {X : Nat → (SI → SJ → Prop) → Prop} (hX : ∀ j, D0 (X j)) : D0 (fun post => ∃ j, a j ∧ b j ∧ X j post) := by
  intro post ⟨j, h1, h2, h3⟩
  obtain ⟨I, J, p, q⟩ := hX j post h3
  exact ⟨I, J, p, fun r k => ⟨j, h1, h2, q r k⟩⟩
theorem dt_all {V U : Type} {e : U} {X : U → (V → SI → SJ → Prop) → Prop} (hX : ∀ x, Dt (X x)) : Dt (fun post => ∀ x, x = e → X x post) := by
  intro post h
  obtain ⟨v, I, J, p, q⟩ := hX e post (h e rfl)
  exact ⟨v, I, J, p, fun r k x hx => hx ▸ q r k⟩
theorem d0_all {U : Type} {e : U} {X : U → (SI → SJ → Prop) → Prop} (hX : ∀ x, D0 (X x)) : D0 (fun post => ∀ x, x = e → X x post) := by
  intro post h
  obtain ⟨I, J, p, q⟩ := hX e post (h e rfl)
  exact ⟨I, J, p, fun r k x hx => hx ▸ q r k⟩
theorem dt_fuel {V : Type} {X : Nat → (V → SI → SJ → Prop) → Prop} (hX : ∀ n, Dt (X n)) : Dt (fun post => ∃ n, X n post) := by
  intro post ⟨n, h⟩
  obtain ⟨v, I, J, p, q⟩ := hX n post h
  exact ⟨v, I, J, p, fun r k => ⟨n, q r k⟩⟩
theorem d0_fuel {X : Nat → (SI → SJ → Prop) → Prop} (hX : ∀ n, D0 (X n)) : D0 (fun post => ∃ n, X n post) := by
  intro post ⟨n, h⟩
  obtain ⟨I, J, p, q⟩ := hX n post h
  exact ⟨I, J, p, fun r k => ⟨n, q r k⟩⟩
theorem dt_bind {V R : Type} {F : (R → SI → SJ → Prop) → Prop} {X : R → SI → SJ → (V → SI → SJ → Prop) → Prop} (hF : Dt F) (hX : ∀ r I J, Dt (X r I J)) : Dt (fun post => F (fun r I J => X r I J post)) := by
  intro post h
  obtain ⟨r, I, J, a, b⟩ := hF _ h
  obtain ⟨v, I2, J2, c, d⟩ := hX r I J post a
  exact ⟨v, I2, J2, c, fun q k => b _ (d q k)⟩
theorem dt_bin0 {V : Type} {F : (SI → SJ → Prop) → Prop} {X : SI → SJ → (V → SI → SJ → Prop) → Prop} (hF : D0 F) (hX : ∀ I J, Dt (X I J)) : Dt (fun post => F (fun I J => X I J post)) := by
  intro post h
  obtain ⟨I, J, a, b⟩ := hF _ h
  obtain ⟨v, I2, J2, c, d⟩ := hX I J post a
  exact ⟨v, I2, J2, c, fun q k => b _ (d q k)⟩
theorem d0_bind {R : Type} {F : (R → SI → SJ → Prop) → Prop} {X : R → SI → SJ → (SI → SJ → Prop) → Prop} (hF : Dt F) (hX : ∀ r I J, D0 (X r I J)) : D0 (fun post => F (fun r I J => X r I J post)) := by
  intro post h
  obtain ⟨r, I, J, a, b⟩ := hF _ h
  obtain ⟨I2, J2, c, d⟩ := hX r I J post a
  exact ⟨I2, J2, c, fun q k => b _ (d q k)⟩

theorem dt_Co_checkOf_L7 (p0 : Int32) (n : Nat) (w0 : Int32) (w1 : Int32) (w2 : SI) (w3 : SJ) : Dt (fun post => p_Co_checkOf_L7 p0 post n w0 w1 w2 w3) := by
  induction n generalizing w0 w1 w2 w3 with
  | zero => exact dt_false
  | succ n ih =>
    simp only [p_Co_checkOf_L7]
    repeat' first | (exact dt_post _ _ _) | (apply ih) | (apply dt_if) | (apply dt_fi) | (refine dt_ex fun _ => ?_) | (refine dt_all fun _ => ?_) | (refine dt_fuel fun _ => ?_)
theorem dt_Co_checkOf (p0 : Int32) (I : SI) (J : SJ) : Dt (fun post => p_Co_checkOf p0 post I J) := by
  unfold p_Co_checkOf
  repeat' first | (exact dt_post _ _ _) | (apply dt_Co_checkOf_L7) | (apply dt_if) | (apply dt_fi) | (refine dt_ex fun _ => ?_) | (refine dt_all fun _ => ?_) | (refine dt_fuel fun _ => ?_)
theorem dt_Co_wordOf (p0 : Int32) (I : SI) (J : SJ) : Dt (fun post => p_Co_wordOf p0 post I J) := by
  unfold p_Co_wordOf
  repeat' first | (exact dt_post _ _ _) | (refine dt_bind (dt_Co_checkOf _ _ _) (fun _ _ _ => ?_)) | (apply dt_if) | (apply dt_fi) | (refine dt_ex fun _ => ?_) | (refine dt_all fun _ => ?_) | (refine dt_fuel fun _ => ?_)
theorem dt_Co_nextPlace (p0 : Int32) (I : SI) (J : SJ) : Dt (fun post => p_Co_nextPlace p0 post I J) := by
  unfold p_Co_nextPlace
  repeat' first | (exact dt_post _ _ _) | (apply dt_if) | (apply dt_fi) | (refine dt_ex fun _ => ?_) | (refine dt_all fun _ => ?_) | (refine dt_fuel fun _ => ?_)
theorem dt_Co_hasSecondSum (p0 : Int32) (I : SI) (J : SJ) : Dt (fun post => p_Co_hasSecondSum p0 post I J) := by
  unfold p_Co_hasSecondSum
  repeat' first | (exact dt_post _ _ _) | (apply dt_if) | (apply dt_fi) | (refine dt_ex fun _ => ?_) | (refine dt_all fun _ => ?_) | (refine dt_fuel fun _ => ?_)
theorem dt_Co_burstOf_L25 (p1 : Int32) (p2 : Int32) (n : Nat) (w0 : Int64) (w1 : Int64) (w2 : Int32) (w3 : Int32) (w4 : SI) (w5 : SJ) : Dt (fun post => p_Co_burstOf_L25 p1 p2 post n w0 w1 w2 w3 w4 w5) := by
  induction n generalizing w0 w1 w2 w3 w4 w5 with
  | zero => exact dt_false
  | succ n ih =>
    simp only [p_Co_burstOf_L25, p_Co_burstOf_98]
    repeat' first | (exact dt_post _ _ _) | (apply ih) | (refine dt_bind (dt_Co_nextPlace _ _ _) (fun _ _ _ => ?_)) | (refine dt_bind (dt_Co_hasSecondSum _ _ _) (fun _ _ _ => ?_)) | (apply dt_if) | (apply dt_fi) | (refine dt_ex fun _ => ?_) | (refine dt_all fun _ => ?_) | (refine dt_fuel fun _ => ?_)
theorem dt_Co_burstOf (p1 : Int32) (p2 : Int32) (I : SI) (J : SJ) : Dt (fun post => p_Co_burstOf p1 p2 post I J) := by
  unfold p_Co_burstOf
  repeat' first | (exact dt_post _ _ _) | (refine dt_bind (dt_Co_wordOf _ _ _) (fun _ _ _ => ?_)) | (apply dt_Co_burstOf_L25) | (apply dt_if) | (apply dt_fi) | (refine dt_ex fun _ => ?_) | (refine dt_all fun _ => ?_) | (refine dt_fuel fun _ => ?_)
theorem dt_Ar_fillJ_L6 (a0 : Nat) (p1 : Int64) (n : Nat) (w0 : Int32) (w1 : Int32) (w2 : SI) (w3 : SJ) : D0 (fun post => p_Ar_fillJ_L6 a0 p1 post n w0 w1 w2 w3) := by
  induction n generalizing w0 w1 w2 w3 with
  | zero => exact d0_false
  | succ n ih =>
    simp only [p_Ar_fillJ_L6]
    repeat' first | (exact d0_post _ _) | (apply ih) | (apply d0_if) | (apply d0_fi) | (refine d0_ex fun _ => ?_) | (refine d0_all fun _ => ?_) | (refine d0_fuel fun _ => ?_)
theorem dt_Ar_fillJ (a0 : Nat) (p1 : Int64) (I : SI) (J : SJ) : D0 (fun post => p_Ar_fillJ a0 p1 post I J) := by
  unfold p_Ar_fillJ
  repeat' first | (exact d0_post _ _) | (apply dt_Ar_fillJ_L6) | (apply d0_if) | (apply d0_fi) | (refine d0_ex fun _ => ?_) | (refine d0_all fun _ => ?_) | (refine d0_fuel fun _ => ?_)
theorem dt_Co_stepOn_L3 (a1 : Nat) (a2 : Nat) (p3 : Int32) (p4 : Int32) (p5 : Int64) (n : Nat) (w0 : Int32) (w1 : SI) (w2 : SJ) : D0 (fun post => p_Co_stepOn_L3 a1 a2 p3 p4 p5 post n w0 w1 w2) := by
  induction n generalizing w0 w1 w2 with
  | zero => exact d0_false
  | succ n ih =>
    simp only [p_Co_stepOn_L3, p_Co_stepOn_86]
    repeat' first | (exact d0_post _ _) | (apply ih) | (apply d0_if) | (apply d0_fi) | (refine d0_ex fun _ => ?_) | (refine d0_all fun _ => ?_) | (refine d0_fuel fun _ => ?_)
theorem dt_Co_stepOn (a1 : Nat) (a2 : Nat) (p3 : Int32) (p4 : Int32) (p5 : Int64) (I : SI) (J : SJ) : D0 (fun post => p_Co_stepOn a1 a2 p3 p4 p5 post I J) := by
  unfold p_Co_stepOn
  repeat' first | (exact d0_post _ _) | (apply dt_Co_stepOn_L3) | (apply d0_if) | (apply d0_fi) | (refine d0_ex fun _ => ?_) | (refine d0_all fun _ => ?_) | (refine d0_fuel fun _ => ?_)
theorem dt_Co_nearest_L36 (p1 : Int64) (p3 : Int32) (n : Nat) (w0 : Int64) (w1 : Int32) (w2 : Int32) (w3 : SI) (w4 : SJ) : Dt (fun post => p_Co_nearest_L36 p1 p3 post n w0 w1 w2 w3 w4) := by
  induction n generalizing w0 w1 w2 w3 w4 with
  | zero => exact dt_false
  | succ n ih =>
    simp only [p_Co_nearest_L36]
    repeat' first | (exact dt_post _ _ _) | (apply ih) | (refine dt_bind (dt_Co_nextPlace _ _ _) (fun _ _ _ => ?_)) | (refine dt_bin0 (dt_Co_stepOn _ _ _ _ _ _ _) (fun _ _ => ?_)) | (apply dt_if) | (apply dt_fi) | (refine dt_ex fun _ => ?_) | (refine dt_all fun _ => ?_) | (refine dt_fuel fun _ => ?_)
theorem dt_Co_nearest (p1 : Int64) (p3 : Int32) (I : SI) (J : SJ) : Dt (fun post => p_Co_nearest p1 p3 post I J) := by
  unfold p_Co_nearest
  repeat' first | (exact dt_post _ _ _) | (refine dt_bin0 (dt_Ar_fillJ _ _ _ _) (fun _ _ => ?_)) | (apply dt_Co_nearest_L36) | (apply dt_if) | (apply dt_fi) | (refine dt_ex fun _ => ?_) | (refine dt_all fun _ => ?_) | (refine dt_fuel fun _ => ?_)
theorem dt_Co_blockOf (p1 : Int64) (p3 : Int32) (I : SI) (J : SJ) : Dt (fun post => p_Co_blockOf p1 p3 post I J) := by
  unfold p_Co_blockOf
  repeat' first | (exact dt_post _ _ _) | (refine dt_bind (dt_Co_nearest _ _ _ _) (fun _ _ _ => ?_)) | (refine dt_bind (dt_Co_wordOf _ _ _) (fun _ _ _ => ?_)) | (apply dt_if) | (apply dt_fi) | (refine dt_ex fun _ => ?_) | (refine dt_all fun _ => ?_) | (refine dt_fuel fun _ => ?_)
theorem dt_TC_receive (p1 : Int32) (p2 : Int32) (p3 : Int32) (I : SI) (J : SJ) : Dt (fun post => p_TC_receive p1 p2 p3 post I J) := by
  unfold p_TC_receive
  repeat' first | (exact dt_post _ _ _) | (refine dt_bind (dt_Co_burstOf _ _ _ _) (fun _ _ _ => ?_)) | (refine dt_bind (dt_Co_blockOf _ _ _ _) (fun _ _ _ => ?_)) | (apply dt_if) | (apply dt_fi) | (refine dt_ex fun _ => ?_) | (refine dt_all fun _ => ?_) | (refine dt_fuel fun _ => ?_)
theorem dt_Md_check_L7 (p0 : Int32) (n : Nat) (w0 : Int32) (w1 : Int32) (w2 : SI) (w3 : SJ) : Dt (fun post => p_Md_check_L7 p0 post n w0 w1 w2 w3) := by
  induction n generalizing w0 w1 w2 w3 with
  | zero => exact dt_false
  | succ n ih =>
    simp only [p_Md_check_L7, p_Md_check_30, p_Md_check_49]
    repeat' first | (exact dt_post _ _ _) | (apply ih) | (apply dt_if) | (apply dt_fi) | (refine dt_ex fun _ => ?_) | (refine dt_all fun _ => ?_) | (refine dt_fuel fun _ => ?_)
theorem dt_Md_check (p0 : Int32) (I : SI) (J : SJ) : Dt (fun post => p_Md_check p0 post I J) := by
  unfold p_Md_check
  repeat' first | (exact dt_post _ _ _) | (apply dt_Md_check_L7) | (apply dt_if) | (apply dt_fi) | (refine dt_ex fun _ => ?_) | (refine dt_all fun _ => ?_) | (refine dt_fuel fun _ => ?_)
theorem dt_Md_turns_L12 (p0 : Int32) (n : Nat) (w0 : Int32) (w1 : Int64) (w2 : Int32) (w3 : SI) (w4 : SJ) : Dt (fun post => p_Md_turns_L12 p0 post n w0 w1 w2 w3 w4) := by
  induction n generalizing w0 w1 w2 w3 w4 with
  | zero => exact dt_false
  | succ n ih =>
    simp only [p_Md_turns_L12, p_Md_turns_33, p_Md_turns_50]
    repeat' first | (exact dt_post _ _ _) | (apply ih) | (apply dt_if) | (apply dt_fi) | (refine dt_ex fun _ => ?_) | (refine dt_all fun _ => ?_) | (refine dt_fuel fun _ => ?_)
theorem dt_Md_turns (p0 : Int32) (I : SI) (J : SJ) : Dt (fun post => p_Md_turns p0 post I J) := by
  unfold p_Md_turns
  repeat' first | (exact dt_post _ _ _) | (apply dt_Md_turns_L12) | (apply dt_if) | (apply dt_fi) | (refine dt_ex fun _ => ?_) | (refine dt_all fun _ => ?_) | (refine dt_fuel fun _ => ?_)
theorem dt_Md_sentFor (p0 : Int32) (p1 : Int32) (p2 : Int32) (I : SI) (J : SJ) : Dt (fun post => p_Md_sentFor p0 p1 p2 post I J) := by
  unfold p_Md_sentFor
  repeat' first | (exact dt_post _ _ _) | (apply dt_if) | (apply dt_fi) | (refine dt_ex fun _ => ?_) | (refine dt_all fun _ => ?_) | (refine dt_fuel fun _ => ?_)
theorem dt_Md_burstOf_L51 (p0 : Int32) (p1 : Int32) {K : (Int64 → SI → SJ → Prop) → Int64 → Int64 → Int32 → Int32 → Int32 → Int32 → SI → SJ → Prop} (hK : ∀ (y0 : Int64) (y1 : Int64) (y2 : Int32) (y3 : Int32) (y4 : Int32) (y5 : Int32) (y6 : SI) (y7 : SJ), Dt (fun post => K post y0 y1 y2 y3 y4 y5 y6 y7)) (n : Nat) (w0 : Int64) (w1 : Int64) (w2 : Int32) (w3 : Int32) (w4 : Int32) (w5 : Int32) (w6 : Int32) (w7 : SI) (w8 : SJ) : Dt (fun post => p_Md_burstOf_L51 p0 p1 post (K post) n w0 w1 w2 w3 w4 w5 w6 w7 w8) := by
  induction n generalizing w0 w1 w2 w3 w4 w5 w6 w7 w8 with
  | zero => exact dt_false
  | succ n ih =>
    simp only [p_Md_burstOf_L51, p_Md_burstOf_105, p_Md_burstOf_102]
    repeat' first | (exact dt_post _ _ _) | (apply ih) | (apply hK) | (refine dt_bind (dt_Md_sentFor _ _ _ _ _) (fun _ _ _ => ?_)) | (apply dt_if) | (apply dt_fi) | (refine dt_ex fun _ => ?_) | (refine dt_all fun _ => ?_) | (refine dt_fuel fun _ => ?_)
theorem dt_Md_burstOf_L29 (p0 : Int32) (p1 : Int32) (n : Nat) (w0 : Int64) (w1 : Int64) (w2 : Int32) (w3 : Int32) (w4 : Int32) (w5 : SI) (w6 : SJ) : Dt (fun post => p_Md_burstOf_L29 p0 p1 post n w0 w1 w2 w3 w4 w5 w6) := by
  induction n generalizing w0 w1 w2 w3 w4 w5 w6 with
  | zero => exact dt_false
  | succ n ih =>
    simp only [p_Md_burstOf_L29]
    repeat' first | (exact dt_post _ _ _) | (apply ih) | (refine dt_Md_burstOf_L51 _ _ (fun _ _ _ _ _ _ _ _ => ?_) _ _ _ _ _ _ _ _ _ _) | (apply dt_if) | (apply dt_fi) | (refine dt_ex fun _ => ?_) | (refine dt_all fun _ => ?_) | (refine dt_fuel fun _ => ?_)
theorem dt_Md_burstOf (p0 : Int32) (p1 : Int32) (I : SI) (J : SJ) : Dt (fun post => p_Md_burstOf p0 p1 post I J) := by
  unfold p_Md_burstOf
  repeat' first | (exact dt_post _ _ _) | (refine dt_bind (dt_Md_check _ _ _) (fun _ _ _ => ?_)) | (refine dt_bind (dt_Md_turns _ _ _) (fun _ _ _ => ?_)) | (apply dt_Md_burstOf_L29) | (apply dt_if) | (apply dt_fi) | (refine dt_ex fun _ => ?_) | (refine dt_all fun _ => ?_) | (refine dt_fuel fun _ => ?_)
theorem dt_Md_misses_L6 (p1 : Int32) (p2 : Int32) (p3 : Int32) (n : Nat) (w0 : Int32) (w1 : Int32) (w2 : SI) (w3 : SJ) : Dt (fun post => p_Md_misses_L6 p1 p2 p3 post n w0 w1 w2 w3) := by
  induction n generalizing w0 w1 w2 w3 with
  | zero => exact dt_false
  | succ n ih =>
    simp only [p_Md_misses_L6, p_Md_misses_50]
    repeat' first | (exact dt_post _ _ _) | (apply ih) | (refine dt_bind (dt_Md_sentFor _ _ _ _ _) (fun _ _ _ => ?_)) | (apply dt_if) | (apply dt_fi) | (refine dt_ex fun _ => ?_) | (refine dt_all fun _ => ?_) | (refine dt_fuel fun _ => ?_)
theorem dt_Md_misses (p1 : Int32) (p2 : Int32) (p3 : Int32) (I : SI) (J : SJ) : Dt (fun post => p_Md_misses p1 p2 p3 post I J) := by
  unfold p_Md_misses
  repeat' first | (exact dt_post _ _ _) | (apply dt_Md_misses_L6) | (apply dt_if) | (apply dt_fi) | (refine dt_ex fun _ => ?_) | (refine dt_all fun _ => ?_) | (refine dt_fuel fun _ => ?_)
theorem dt_Md_nearest_L14 (p1 : Int64) (p3 : Int32) {K : (SI → SJ → Prop) → SI → SJ → Prop} (hK : ∀ (y0 : SI) (y1 : SJ), D0 (fun post => K post y0 y1)) (n : Nat) (w0 : Int64) (w1 : Int32) (w2 : Int32) (w3 : SI) (w4 : SJ) : D0 (fun post => p_Md_nearest_L14 p1 p3 post (K post) n w0 w1 w2 w3 w4) := by
  induction n generalizing w0 w1 w2 w3 w4 with
  | zero => exact d0_false
  | succ n ih =>
    simp only [p_Md_nearest_L14, p_Md_nearest_61]
    repeat' first | (exact d0_post _ _) | (apply ih) | (apply hK) | (apply d0_if) | (apply d0_fi) | (refine d0_ex fun _ => ?_) | (refine d0_all fun _ => ?_) | (refine d0_fuel fun _ => ?_)
theorem dt_Md_nearest_L70 (p1 : Int64) (p3 : Int32) {K : (SI → SJ → Prop) → SI → SJ → Prop} (hK : ∀ (y0 : SI) (y1 : SJ), D0 (fun post => K post y0 y1)) (n : Nat) (w0 : Int32) (w1 : SI) (w2 : SJ) : D0 (fun post => p_Md_nearest_L70 p1 p3 post (K post) n w0 w1 w2) := by
  induction n generalizing w0 w1 w2 with
  | zero => exact d0_false
  | succ n ih =>
    simp only [p_Md_nearest_L70]
    repeat' first | (exact d0_post _ _) | (apply ih) | (apply hK) | (apply d0_if) | (apply d0_fi) | (refine d0_ex fun _ => ?_) | (refine d0_all fun _ => ?_) | (refine d0_fuel fun _ => ?_)
theorem dt_Md_nearest_L107 (p1 : Int64) (p3 : Int32) {K : (SI → SJ → Prop) → Int32 → SI → SJ → Prop} (hK : ∀ (y0 : Int32) (y1 : SI) (y2 : SJ), D0 (fun post => K post y0 y1 y2)) (n : Nat) (w0 : Int32) (w1 : Int32) (w2 : SI) (w3 : SJ) : D0 (fun post => p_Md_nearest_L107 p1 p3 post (K post) n w0 w1 w2 w3) := by
  induction n generalizing w0 w1 w2 w3 with
  | zero => exact d0_false
  | succ n ih =>
    simp only [p_Md_nearest_L107, p_Md_nearest_193, p_Md_nearest_221]
    repeat' first | (exact d0_post _ _) | (apply ih) | (apply hK) | (refine d0_bind (dt_Md_misses _ _ _ _ _) (fun _ _ _ => ?_)) | (apply d0_if) | (apply d0_fi) | (refine d0_ex fun _ => ?_) | (refine d0_all fun _ => ?_) | (refine d0_fuel fun _ => ?_)
theorem dt_Md_nearest_L99 (p1 : Int64) (p3 : Int32) {K : (SI → SJ → Prop) → SI → SJ → Prop} (hK : ∀ (y0 : SI) (y1 : SJ), D0 (fun post => K post y0 y1)) (n : Nat) (w0 : Int32) (w1 : SI) (w2 : SJ) : D0 (fun post => p_Md_nearest_L99 p1 p3 post (K post) n w0 w1 w2) := by
  induction n generalizing w0 w1 w2 with
  | zero => exact d0_false
  | succ n ih =>
    simp only [p_Md_nearest_L99]
    repeat' first | (exact d0_post _ _) | (apply ih) | (apply hK) | (refine dt_Md_nearest_L107 _ _ (fun _ _ _ => ?_) _ _ _ _ _) | (apply d0_if) | (apply d0_fi) | (refine d0_ex fun _ => ?_) | (refine d0_all fun _ => ?_) | (refine d0_fuel fun _ => ?_)
theorem dt_Md_nearest_L255 (p1 : Int64) (p3 : Int32) (n : Nat) (w0 : Int32) (w1 : Int32) (w2 : SI) (w3 : SJ) : D0 (fun post => p_Md_nearest_L255 p1 p3 post n w0 w1 w2 w3) := by
  induction n generalizing w0 w1 w2 w3 with
  | zero => exact d0_false
  | succ n ih =>
    simp only [p_Md_nearest_L255, p_Md_nearest_318]
    repeat' first | (exact d0_post _ _) | (apply ih) | (refine d0_bind (dt_Md_misses _ _ _ _ _) (fun _ _ _ => ?_)) | (apply d0_if) | (apply d0_fi) | (refine d0_ex fun _ => ?_) | (refine d0_all fun _ => ?_) | (refine d0_fuel fun _ => ?_)
theorem dt_Md_nearest (p1 : Int64) (p3 : Int32) (I : SI) (J : SJ) : D0 (fun post => p_Md_nearest p1 p3 post I J) := by
  unfold p_Md_nearest
  repeat' first | (exact d0_post _ _) | (refine d0_bind (dt_Md_turns _ _ _) (fun _ _ _ => ?_)) | (refine dt_Md_nearest_L14 _ _ (fun _ _ => ?_) _ _ _ _ _ _) | (refine dt_Md_nearest_L70 _ _ (fun _ _ => ?_) _ _ _ _) | (refine dt_Md_nearest_L99 _ _ (fun _ _ => ?_) _ _ _ _) | (apply dt_Md_nearest_L255) | (apply d0_if) | (apply d0_fi) | (refine d0_ex fun _ => ?_) | (refine d0_all fun _ => ?_) | (refine d0_fuel fun _ => ?_)
theorem dt_Md_blockOf (p1 : Int64) (p3 : Int32) (I : SI) (J : SJ) : Dt (fun post => p_Md_blockOf p1 p3 post I J) := by
  unfold p_Md_blockOf
  repeat' first | (exact dt_post _ _ _) | (refine dt_bin0 (dt_Md_nearest _ _ _ _) (fun _ _ => ?_)) | (refine dt_bind (dt_Md_check _ _ _) (fun _ _ _ => ?_)) | (apply dt_if) | (apply dt_fi) | (refine dt_ex fun _ => ?_) | (refine dt_all fun _ => ?_) | (refine dt_fuel fun _ => ?_)
theorem dt_Md_gets (p1 : Int32) (p2 : Int32) (p3 : Int32) (I : SI) (J : SJ) : Dt (fun post => p_Md_gets p1 p2 p3 post I J) := by
  unfold p_Md_gets
  repeat' first | (exact dt_post _ _ _) | (refine dt_bind (dt_Md_burstOf _ _ _ _) (fun _ _ _ => ?_)) | (refine dt_bind (dt_Md_blockOf _ _ _ _) (fun _ _ _ => ?_)) | (apply dt_if) | (apply dt_fi) | (refine dt_ex fun _ => ?_) | (refine dt_all fun _ => ?_) | (refine dt_fuel fun _ => ?_)
theorem x_receive {I : SI} {J : SJ} (hs : hSum I) (hk : hCol J) {j b c F : Nat} (hj : j < 11) (hb : b < 2 ^ 20) (hc : c < 8) (hF : F < 2 ^ 54) (eF : J 13 j = lN F) :
    ∃ J' : SJ, (∀ post : Int32 → SI → SJ → Prop, post (rcN b F) I J' → p_TC_receive (nI j) (nI b) (nI c) post I J) ∧ (∀ o, o ≠ 4 → o ≠ 5 → o ≠ 13 → J' o = J o) ∧ (∀ k, k ≠ j → J' 13 k = J 13 k) ∧ J' 13 j = lN 0 := by
  have h := s_TC_receive hs hk hj hb hc hF eF (post := fun v I1 J1 => v = rcN b F ∧ I1 = I ∧ (∀ o, o ≠ 4 → o ≠ 5 → o ≠ 13 → J1 o = J o) ∧ (∀ k, k ≠ j → J1 13 k = J 13 k) ∧ J1 13 j = lN 0) (fun J' h1 h2 h3 => ⟨rfl, rfl, h1, h2, h3⟩)
  obtain ⟨v, I1, J1, ⟨rfl, rfl, h1, h2, h3⟩, g⟩ := dt_TC_receive _ _ _ _ _ _ h
  exact ⟨J1, g, h1, h2, h3⟩
theorem x_gets {I : SI} {J : SJ} {j b c F : Nat} (hj : j < 11) (hb : b < 2 ^ 20) (hc : c < 7) (hF : F < 2 ^ 54) (eF : J 25 j = lN F) :
    ∃ (I' : SI) (J' : SJ), (∀ post : Int32 → SI → SJ → Prop, post (rcN b F) I' J' → p_Md_gets (nI j) (nI b) (nI c) post I J) ∧ (∀ o, o ≠ 0 → o ≠ 1 → o ≠ 2 → I' o = I o) ∧ (∀ k, k ≠ 4 → I' 0 k = I 0 k) ∧ (∀ k, k ≠ j → J' 25 k = J 25 k) ∧ J' 25 j = lN 0 := by
  have h := s_Md_gets hj hb hc hF eF (post := fun v I1 J1 => v = rcN b F ∧ (∀ o, o ≠ 0 → o ≠ 1 → o ≠ 2 → I1 o = I o) ∧ (∀ k, k ≠ 4 → I1 0 k = I 0 k) ∧ (∀ k, k ≠ j → J1 25 k = J 25 k) ∧ J1 25 j = lN 0) (fun I' J' h1 h2 h3 h4 h5 h6 => ⟨rfl, h1, h2, h5, h6⟩)
  obtain ⟨v, I1, J1, ⟨rfl, h1, h2, h3, h4⟩, g⟩ := dt_Md_gets _ _ _ _ _ _ h
  exact ⟨I1, J1, g, h1, h2, h3, h4⟩
theorem hSum_of {I I' : SI} (h : hSum I) (e : I' 3 = I 3) : hSum I' := fun j hj => by
  rw [e]
  exact h j hj
theorem hCol_of {J J' : SJ} (h : hCol J) (e : J' 2 = J 2) : hCol J' := fun j hj => by
  rw [e]
  exact h j hj
theorem rc_lt (b F : Nat) : rcN b F = (-1 : Int32) ∨ ∃ b', b' < 2 ^ 20 ∧ rcN b F = nI b' := dc_lt _
