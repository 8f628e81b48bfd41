/-! the calls that change something -/
theorem jInv.known {m : Nat} {I : SI} {J : SJ} {A : SI} {B : SJ} (h : jInv I J A B) (v : Int32) : jInv (xu I 7 m v) J (xu A 5 m v) B := by
  obtain ⟨M, W, tb, tm⟩ := h
  have i : ∀ o, o ≠ 7 → xu I 7 m v o = I o := fun o ho => xu_o _ _ _ ho
  have a : ∀ o, o ≠ 5 → xu A 5 m v o = A o := fun o ho => xu_o _ _ _ ho
  refine ⟨fun q hq => rMob_of (M q hq) (i _ (by omega)) (i _ (by omega)) (i _ (by omega)) (fun o _ _ _ h5 _ _ => by rw [a o h5]) (fun k _ => by rw [a 18 (by decide)]), ⟨fun q hq => ?_, fun g hg => rGrp_of (W.2.1 g hg) (i _ (by omega)) (i _ (by omega)) (fun o _ _ _ => by rw [a o (by omega)]) (fun k _ => by rw [a 30 (by decide)]), fun c hc => rSy_of (W.2.2 c hc) (i _ (by omega)) (i _ (by omega)) (by rw [a 33 (by decide)]) (fun k _ => by rw [a 32 (by decide)])⟩, ⟨hSum_of tb.1 (i 3 (by decide)), tb.2⟩, ?_⟩
  · by_cases e : q = m
    · subst e
      unfold rPl
      rw [xu_s, xu_s, i 8 (by decide), i 9 (by decide), a 24 (by decide), a 6 (by decide)]
      exact ⟨rfl, (W.1 q hq).2⟩
    · exact rPl_of (W.1 q hq) (xu_k _ _ _ e) (by rw [i 8 (by decide)]) (by rw [i 9 (by decide)]) (xu_k _ _ _ e) (by rw [a 6 (by decide)]) (by rw [a 24 (by decide)])
  · unfold rTm
    rw [i 0 (by decide), a 0 (by decide)]
    exact tm
theorem jInv.memb {m x : Nat} (hx : x < 16) {I : SI} {J : SJ} {A : SI} {B : SJ} (h : jInv I J A B) : jInv (xu I 9 m (nI x)) J (xu A 6 m (nI x)) B := by
  obtain ⟨M, W, tb, tm⟩ := h
  have i : ∀ o, o ≠ 9 → xu I 9 m (nI x) o = I o := fun o ho => xu_o _ _ _ ho
  have a : ∀ o, o ≠ 6 → xu A 6 m (nI x) o = A o := fun o ho => xu_o _ _ _ ho
  refine ⟨fun q hq => rMob_of (M q hq) (i _ (by omega)) (i _ (by omega)) (i _ (by omega)) (fun o _ _ _ _ h6 _ => by rw [a o h6]) (fun k _ => by rw [a 18 (by decide)]), ⟨fun q hq => ?_, fun g hg => rGrp_of (W.2.1 g hg) (i _ (by omega)) (i _ (by omega)) (fun o _ _ _ => by rw [a o (by omega)]) (fun k _ => by rw [a 30 (by decide)]), fun c hc => rSy_of (W.2.2 c hc) (i _ (by omega)) (i _ (by omega)) (by rw [a 33 (by decide)]) (fun k _ => by rw [a 32 (by decide)])⟩, ⟨hSum_of tb.1 (i 3 (by decide)), tb.2⟩, ?_⟩
  · by_cases e : q = m
    · subst e
      unfold rPl
      rw [xu_s, xu_s, i 8 (by decide), i 7 (by decide), a 24 (by decide), a 5 (by decide)]
      exact ⟨(W.1 q hq).1, (W.1 q hq).2.1, x, hx, rfl, rfl⟩
    · exact rPl_of (W.1 q hq) (by rw [i 7 (by decide)]) (by rw [i 8 (by decide)]) (xu_k _ _ _ e) (by rw [a 5 (by decide)]) (xu_k _ _ _ e) (by rw [a 24 (by decide)])
  · unfold rTm
    rw [i 0 (by decide), a 0 (by decide)]
    exact tm
theorem jInv.gkey {m : Nat} (hm : m < 4) {I : SI} {J : SJ} {A : SI} {B : SJ} (h : jInv I J A B) (v : Int32) : jInv (xu I (38 + m) 2 v) J (xu A 26 m v) B := by
  obtain ⟨M, W, tb, tm⟩ := h
  have i : ∀ o, o ≠ 38 + m → xu I (38 + m) 2 v o = I o := fun o ho => xu_o _ _ _ ho
  have a : ∀ o, o ≠ 26 → xu A 26 m v o = A o := fun o ho => xu_o _ _ _ ho
  have fs : fS I (xu I (38 + m) 2 v) A (xu A 26 m v) := ⟨fun o ho _ => i o (by omega), fun o ho => a o (by omega)⟩
  refine ⟨fs.mi M, ⟨fun q hq => rPl_of (W.1 q hq) (by rw [i 7 (by omega)]) (by rw [i 8 (by omega)]) (by rw [i 9 (by omega)]) (by rw [a 5 (by decide)]) (by rw [a 6 (by decide)]) (by rw [a 24 (by decide)]), fun g hg => ?_, fun c hc => rSy_of (W.2.2 c hc) (i _ (by omega)) (i _ (by omega)) (by rw [a 33 (by decide)]) (fun k _ => by rw [a 32 (by decide)])⟩, fs.tb tb, fs.tm tm⟩
  by_cases e : g = m
  · subst e
    obtain ⟨_, ⟨n, hn, n1, n2, n3⟩, r2⟩ := W.2.1 g hg
    refine ⟨by rw [xu_s, xu_s], ⟨n, hn, by rw [xu_k _ _ _ (by decide)]; exact n1, by rw [a 31 (by decide)]; exact n2, fun k hk => by rw [i _ (by omega), a 30 (by decide)]; exact n3 k hk⟩, ?_⟩
    unfold rCl
    rw [a 27 (by decide), a 28 (by decide), a 29 (by decide), xu_k _ _ _ (by decide), xu_k _ _ _ (by decide), xu_k _ _ _ (by decide)]
    exact r2
  · refine rGrp_of (W.2.1 g hg) (i _ (by omega)) (i _ (by omega)) (fun o _ _ _ => ?_) (fun k _ => by rw [a 30 (by decide)])
    by_cases eo : o = 26
    · subst eo
      exact xu_k _ _ _ e
    · rw [a o eo]
theorem jInv.flt {m F : Nat} (hF : F < 2 ^ 54) {I : SI} {J : SJ} {A : SI} {B : SJ} (h : jInv I J A B) : jInv I (xv J 13 m (lN F)) A (xv B 25 m (lN F)) := by
  obtain ⟨M, W, ⟨t1, t2, t3⟩, tm⟩ := h
  refine ⟨M, W, ⟨t1, hCol_of t2 (xv_o _ _ _ (by decide)), fun q hq => ?_⟩, tm⟩
  by_cases e : q = m
  · subst e
    exact ⟨F, hF, xv_s _ _ _ _, xv_s _ _ _ _⟩
  · rw [xv_k _ _ _ e, xv_k _ _ _ e]
    exact t3 q hq
theorem and54 (x : Int64) : ∃ F, F < 2 ^ 54 ∧ x &&& (18014398509481983 : Int64) = lN F := by
  refine ⟨x.toBitVec.toNat % 2 ^ 54, Nat.mod_lt _ (by decide), Int64.toBitVec_inj.mp (BitVec.eq_of_toNat_eq ?_)⟩
  rw [Int64.toBitVec_and, BitVec.toNat_and]
  show x.toBitVec.toNat &&& (2 ^ 54 - 1) = (BitVec.ofNat 64 (x.toBitVec.toNat % 2 ^ 54)).toNat
  have : x.toBitVec.toNat % 2 ^ 54 < 2 ^ 54 := Nat.mod_lt _ (by decide)
  rw [BitVec.toNat_ofNat, Nat.and_two_pow_sub_one_eq_mod, Nat.mod_eq_of_lt (a := x.toBitVec.toNat % 2 ^ 54) (by omega)]
theorem kind_eq {m : Nat} (hm : m < 8) {I A : SI} (h : rMob m I A) : (xsu (I (22 + m) 0) (16 : Int32)) &&& (15 : Int32) = A 7 m := by
  obtain ⟨_, _, _, _, _, _, _, _, _, ⟨k, w, r, k4, w16, r512, e7, k0, kn⟩⟩ := h
  by_cases z : k = 0
  · subst z
    rw [(k0 rfl).1, e7]
    decide
  · rw [(kn z).2.2.1, e7, fu_16 (blk_lt (by omega) hm w16 r512)]
    congr 1
    unfold blk
    omega
section E
variable {I : SI} {J : SJ} {A : SI} {B : SJ}
theorem e_keys (h : jInv I J A B) (p1 p2 p3 : Int32) : pr (p_Lw_keys p1 p2 p3) (p_Md_keys p1 p2 p3) I J A B := by
  rcases d_keys (I := I) (J := J) (A := A) (B := B) p1 p2 p3 with t | ⟨m, hm, rfl, d⟩
  · exact pr_1 (f := p_TC_keys p1 p2 p3) (L := fun post i I J => i = 1 ∧ post 1 I J) h t (fun post q => ⟨rfl, q⟩)
  · have h0 := thr_inv h 0
    refine pr_0 (f := p_TC_keys (nI m) p2 p3) (L := fun post i I J => i = 1 ∧ post 1 I J) d ((h0.mob hm (oM.one m 4 4 (by decide) I _ p2 p2) (key_mob (h0.1 m hm) p2)).known p3) ?_
    simp [xu_at]
theorem e_group (h : jInv I J A B) (p1 p2 : Int32) : pr (p_Lw_group p1 p2) (p_Md_group p1 p2) I J A B := by
  rcases d_group (I := I) (J := J) (A := A) (B := B) p1 p2 with t | ⟨m, hm, rfl, d⟩
  · exact pr_1 (f := p_TC_group p1 p2) (L := fun post i I J => i = 1 ∧ post 1 I J) h t (fun post q => ⟨rfl, q⟩)
  · refine pr_0 (f := p_TC_group (nI m) p2) (L := fun post i I J => i = 1 ∧ post 1 I J) d ((thr_inv h 0).gkey hm p2) ?_
    simp [xu_at]
theorem e_member (h : jInv I J A B) (p1 p2 : Int32) : pr (p_Lw_member p1 p2) (p_Md_member p1 p2) I J A B := by
  rcases d_member (I := I) (J := J) (A := A) (B := B) p1 p2 with t | ⟨m, hm, rfl, d⟩
  · exact pr_1 (f := p_TC_member p1 p2) (L := fun post i I J => i = 1 ∧ post 1 I J) h t (fun post q => ⟨rfl, q⟩)
  · obtain ⟨x, hx, ex⟩ := pk_andE p2 (m := 15) 4 (by decide)
    rw [ex] at d
    refine pr_0 (f := p_TC_member (nI m) p2) (L := fun post i I J => i = 1 ∧ post 1 I J) d ((thr_inv h 0).memb hx) ?_
    simp [xu_at]
theorem e_speak (h : jInv I J A B) (p1 p2 : Int32) : pr (p_Lw_speak p1 p2) (p_Md_speak p1 p2) I J A B := by
  rcases d_speak (I := I) (J := J) (A := A) (B := B) p1 p2 with t | ⟨m, hm, rfl, d⟩
  · exact pr_1 (f := p_TC_speak p1 p2) (L := fun post i I J => i = 1 ∧ post 1 I J) h t (fun post q => ⟨rfl, q⟩)
  · obtain ⟨x, hx, ex⟩ := pk_andE p2 (m := 524287) 19 (by decide)
    rw [ex] at d
    have h0 := thr_inv h 0
    refine pr_0 (f := p_TC_speak (nI m) p2) (L := fun post i I J => i = 1 ∧ post 1 I J) d (h0.mob hm (oM.one m 5 17 (by decide) I _ _ _) (spk_mob (h0.1 m hm) hx)) ?_
    simp [xu_at]
theorem e_fault (h : jInv I J A B) (p1 : Int32) (p2 : Int64) : pr (p_Lw_fault p1 p2) (p_Md_fault p1 p2) I J A B := by
  rcases d_fault (I := I) (J := J) (A := A) (B := B) p1 p2 with t | ⟨m, hm, rfl, d⟩
  · exact pr_1 (f := p_TC_fault p1 p2) (L := fun post i I J => i = 1 ∧ post 1 I J) h t (fun post q => ⟨rfl, q⟩)
  · obtain ⟨x, hx, ex⟩ := and54 p2
    rw [ex] at d
    exact pr_0 (f := p_TC_fault (nI m) p2) (L := fun post i I J => i = 1 ∧ post 1 I J) d ((thr_inv h 0).flt hx) (xu_s _ _ _ _)
theorem e_release (h : jInv I J A B) (p1 : Int32) : pr (p_Lw_release p1) (p_Md_release p1) I J A B := by
  rcases d_release (I := I) (J := J) (A := A) (B := B) p1 (fun m hm => kind_eq hm (h.1 m hm)) with t | ⟨m, hm, rfl, ⟨_, d⟩ | ⟨_, d⟩⟩
  · exact pr_1 (f := p_TC_release p1) (L := fun post i I J => i = 1 ∧ post 1 I J) h t (fun post q => ⟨rfl, q⟩)
  · have h0 := thr_inv h 0
    have h1 := h0.mob hm (oM.one m 7 16 (by decide) I _ (-1) (-1)) (prs_mob (h0.1 m hm) (Or.inl rfl))
    refine pr_0 (f := p_TC_release (nI m)) (L := fun post i I J => i = 1 ∧ post 1 I J) d (h1.mob hm (oM.drop m _ _) (drop_mob (h1.1 m hm))) ?_
    simp [mNo, xu_at]
  · have h0 := thr_inv h 0
    refine pr_0 (f := p_TC_release (nI m)) (L := fun post i I J => i = 1 ∧ post 1 I J) d (h0.mob hm (oM.one m 7 16 (by decide) I _ (-1) (-1)) (prs_mob (h0.1 m hm) (Or.inl rfl))) ?_
    simp [xu_at]
theorem mov_mob {m : Nat} (h : rMob m I A) {v : Int32} (hv : v = -1 ∨ ∃ c, c < 3 ∧ v = nI c) : rMob m (cIdle (xu (cPut (xu I (14 + m) 6 v) m 0) (14 + m) 7 (-1)) m) (mIdle (xu (mNo (xu A 3 m v) m) 16 m (-1)) m) := by
  obtain ⟨h1, h2, h3, h4, h5, h6, h7, h8, h9, h10⟩ := h
  exact ⟨by simpa [cIdle, cPut, xu_at] using h1, by simpa [cIdle, cPut, mIdle, mNo, xu_at] using h2, ⟨by simp [cIdle, cPut, mIdle, mNo, xu_at], by
    have e : mIdle (xu (mNo (xu A 3 m v) m) 16 m (-1)) m 3 m = v := by simp [mIdle, mNo, xu_at]
    rw [e]
    exact hv⟩, rSpk_of h4 (by simp [cIdle, cPut, xu_at]) (by simp [mIdle, mNo, xu_at]), rDrw_of h5 (by simp [cIdle, cPut, xu_at]) (by simp [mIdle, mNo, xu_at]) (by funext k; simp [cIdle, cPut, xu_at]) (by funext k; simp [mIdle, mNo, xu_at]), ⟨by simp [cIdle, cPut, mIdle, mNo, xu_at], Or.inl (by simp [mIdle, mNo, xu_at])⟩, Or.inl ⟨by simp [mIdle, xu_at], by simp [cIdle, xu_at], by simp [cIdle, xu_at], by simp [cIdle, xu_at]⟩, rGot_of h8 (by simp [cIdle, cPut, xu_at]) (by simp [cIdle, cPut, xu_at]) (by simp [cIdle, cPut, xu_at]) (by simp [cIdle, cPut, xu_at]) (by simp [mIdle, mNo, xu_at]) (by simp [mIdle, mNo, xu_at]) (by simp [mIdle, mNo, xu_at]) (by simp [mIdle, mNo, xu_at]), ⟨⟨0, by decide, by simp [cIdle, cPut, xu_at, nI_0], by simp [mIdle, mNo, xu_at, nI_0]⟩, by simp [cIdle, cPut, mIdle, mNo, xu_at]⟩, rMsg_0 (by simp [mIdle, mNo, xu_at]) (by simp [mIdle, mNo, xu_at]) (by simp [mIdle, mNo, xu_at]) (by simp [cIdle, cPut, xu_at]) (by simp [cIdle, cPut, xu_at])⟩
theorem e_move (h : jInv I J A B) (p1 p2 : Int32) : pr (p_Lw_move p1 p2) (p_Md_move p1 p2) I J A B := by
  rcases d_move (I := I) (J := J) (A := A) (B := B) p1 p2 with t | ⟨m, hm, rfl, hv, d⟩
  · exact pr_1 (f := p_TC_move p1 p2) (L := fun post i I J => i = 1 ∧ post 1 I J) h t (fun post q => ⟨rfl, q⟩)
  · have h0 := thr_inv h 0
    have om : oM m I (cIdle (xu (cPut (xu I (14 + m) 6 p2) m 0) (14 + m) 7 (-1)) m) (xu A 0 0 0) (mIdle (xu (mNo (xu (xu A 0 0 0) 3 m p2) m) 16 m (-1)) m) := (((oM.one m 6 3 (by decide) I _ p2 p2).trans (oM.drop m _ _)).trans (oM.one m 7 16 (by decide) _ _ (-1) (-1))).trans (oM.idle m _ _)
    refine pr_0 (f := p_TC_move (nI m) p2) (L := fun post i I J => i = 1 ∧ post 1 I J) d (h0.mob hm om (mov_mob (h0.1 m hm) hv)) ?_
    simp [mIdle, mNo, xu_at]
theorem e_draw (h : jInv I J A B) (p1 p2 : Int32) : pr (p_Lw_draw p1 p2) (p_Md_draw p1 p2) I J A B := by
  rcases d_draw (I := I) (J := J) (A := A) (B := B) p1 p2 (fun m hm => by
    obtain ⟨n, hn, n1, n2, _⟩ := (h.1 m hm).2.2.2.2.1
    exact ⟨n, hn, n1, n2⟩) with t | t | t | ⟨m, n, d, hm, hn, hd, rfl, rfl, n1, n2, dd⟩
  · exact pr_1 (f := p_TC_draw p1 p2) (L := fun post i I J => (i = 1 ∧ post 1 I J) ∨ (i = 3 ∧ post 2 I J) ∨ (i = 2 ∧ post 3 I J)) h t (fun post q => Or.inl ⟨rfl, q⟩)
  · exact pr_1 (f := p_TC_draw p1 p2) (L := fun post i I J => (i = 1 ∧ post 1 I J) ∨ (i = 3 ∧ post 2 I J) ∨ (i = 2 ∧ post 3 I J)) h t (fun post q => Or.inr (Or.inl ⟨rfl, q⟩))
  · exact pr_1 (f := p_TC_draw p1 p2) (L := fun post i I J => (i = 1 ∧ post 1 I J) ∨ (i = 3 ∧ post 2 I J) ∨ (i = 2 ∧ post 3 I J)) h t (fun post q => Or.inr (Or.inr ⟨rfl, q⟩))
  · have h0 := thr_inv h 0
    have om : oM m I (xu (xu I (30 + m) n (nI d)) (14 + m) 3 (nI (n + 1))) (xu A 0 0 0) (xu (xu (xu A 0 0 0) 18 (8 * m + n) (nI d)) 19 m (nI (n + 1))) := by
      refine ⟨fun o h1 h2 h3 => by rw [xu_o _ _ _ h1, xu_o _ _ _ h3], fun o k _ _ _ h18 hk => ?_, fun k hk => ?_, fun o ho => by rw [xu_o _ _ _ (by omega), xu_o _ _ _ (by omega)], fun k _ => by rw [xu_o _ _ _ (by decide), xu_o _ _ _ (by decide)]⟩
      · rw [xu_at, if_neg (by omega), xu_o _ _ _ h18]
      · rw [xu_o _ _ _ (by decide), xu_k _ _ _ (by omega)]
    refine pr_0 (f := p_TC_draw (nI m) (nI d)) (L := fun post i I J => (i = 1 ∧ post 1 I J) ∨ (i = 3 ∧ post 2 I J) ∨ (i = 2 ∧ post 3 I J)) dd (h0.mob hm om (drw_mob (h0.1 m hm) hn n1 _)) ?_
    simp [xu_at]
theorem e_register (h : jInv I J A B) (p1 : Int32) : pr (p_Lw_register p1) (p_Md_register p1) I J A B := by
  have bad : ∀ (c : Int32) (post : SI → SJ → Prop), ¬ c = 0 → post (xu A 0 0 c) B → p_Md_register_37 p1 post c A B := by
    intro c post hc k I4 e4
    subst e4
    exact ⟨fun _ => k, fun e => absurd ((xu_s A 0 0 c).symm.trans e) hc⟩
  rcases ix_all p1 (n := 8) (by decide) with l | ⟨m, hm, rfl⟩
  · exact pr_1 (f := p_TC_register p1) (L := fun post i I J => (i = 1 ∧ post 1 I J) ∨ (i = 2 ∧ post 2 I J)) (k := 1) (c := 1) h ⟨fun post exc k => ne_0 l k, fun post k => ix_M0 l ⟨fun n => absurd rfl n, fun _ => bad 1 post (by decide) k⟩⟩ (fun post q => Or.inl ⟨rfl, q⟩)
  · by_cases f : free1 m A
    · have h0 := thr_inv h 0
      refine pr_0 (f := p_TC_register (nI m)) (L := fun post i I J => (i = 1 ∧ post 1 I J) ∨ (i = 2 ∧ post 2 I J)) (I' := cPut I m (nI (blk 1 m 0 0))) (J' := J) (A' := mBeg (xu A 0 0 0) m 1 0 0) (B' := B) ⟨fun post exc k => ne_1 hm (by decide) ⟨m, rfl, hm, room_C hm (h.1 m hm) (fun _ => ⟨m, rfl, hm, s_Bk_of (k := 1) (g := 0) (l := 0) (r := 0) (by decide) hm (by decide) (by decide) (by decide) (by decide) (s_Me_put k)⟩) (fun n => absurd f n)⟩, fun post k => ix_M1 hm (by decide) ⟨fun _ => ⟨m, rfl, hm, fun e => absurd e f.1, fun _ => ⟨m, rfl, hm, fun _ I5 e5 => ?_, fun n => absurd f.2 n⟩⟩, fun e => absurd e (by decide)⟩⟩ (h0.mob hm (oM.beg m I _ _ _ _ _) (beg_mob (h0.1 m hm) (k := 1) (w := 0) (r := 0) (by decide) (by decide) (by decide) (by decide) (fun _ => ⟨rfl, rfl⟩))) ?_
      · subst e5
        exact ⟨fun n => absurd (xu_s A 0 0 0) n, fun _ => s_Md_begin hm k⟩
      · simp [mBeg, xu_at]
    · exact pr_1 (f := p_TC_register (nI m)) (L := fun post i I J => (i = 1 ∧ post 1 I J) ∨ (i = 2 ∧ post 2 I J)) (k := 2) (c := 2) h ⟨fun post exc k => ne_1 hm (by decide) ⟨m, rfl, hm, room_C hm (h.1 m hm) (fun e => absurd e f) (fun _ => k)⟩, fun post k => ix_M1 hm (by decide) ⟨fun _ => ⟨m, rfl, hm, fun _ => bad 2 post (by decide) k, fun n => ⟨m, rfl, hm, fun e => absurd ⟨n, e⟩ f, fun _ => bad 2 post (by decide) k⟩⟩, fun e => absurd e (by decide)⟩⟩ (fun post q => Or.inr ⟨rfl, q⟩)
theorem e_send (h : jInv I J A B) (p1 p2 p3 : Int32) : pr (p_Lw_send p1 p2 p3) (p_Md_send p1 p2 p3) I J A B := by
  have bad : ∀ (c : Int32) (post : SI → SJ → Prop), ¬ c = 0 → post (xu A 0 0 c) B → p_Md_send_46 p1 p2 p3 post c A B := by
    intro c post hc k I4 e4
    subst e4
    exact ⟨fun _ => k, fun e => absurd ((xu_s A 0 0 c).symm.trans e) hc⟩
  rcases ix_all p1 (n := 8) (by decide) with l | ⟨m, hm, rfl⟩
  · exact pr_1 (f := p_TC_send p1 p2 p3) (L := fun post i I J => (i = 1 ∧ post 1 I J) ∨ (i = 2 ∧ post 2 I J)) (k := 1) (c := 1) h ⟨fun post exc k => ne_0 l k, fun post k => ix_M0 l ⟨fun _ => bad 1 post (by decide) k, fun n => absurd rfl n⟩⟩ (fun post q => Or.inl ⟨rfl, q⟩)
  · rcases ix_all p2 (n := 8) (by decide) with l | ⟨w, hw, rfl⟩
    · exact pr_1 (f := p_TC_send (nI m) p2 p3) (L := fun post i I J => (i = 1 ∧ post 1 I J) ∨ (i = 2 ∧ post 2 I J)) (k := 1) (c := 1) h ⟨fun post exc k => ne_1 hm (by decide) (ne_0 l k), fun post k => ix_M1 hm (by decide) ⟨fun e => absurd e (by decide), fun _ => ix_M0 l ⟨fun n => absurd rfl n, fun _ => bad 1 post (by decide) k⟩⟩⟩ (fun post q => Or.inl ⟨rfl, q⟩)
    · by_cases f : free1 m A
      · have h0 := thr_inv h 0
        obtain ⟨r, hr, er⟩ := and_511 p3
        have w3 : nI w &&& (3 : Int32) = nI (w % 4) := pk_andN (by omega) 2 (by decide)
        have ew : 4 * (w / 4) + w % 4 = w := by omega
        refine pr_0 (f := p_TC_send (nI m) (nI w) p3) (L := fun post i I J => (i = 1 ∧ post 1 I J) ∨ (i = 2 ∧ post 2 I J)) (I' := cPut I m (nI (blk 3 m w r))) (J' := J) (A' := mBeg (xu A 0 0 0) m 3 (nI w) (nI r)) (B' := B) ⟨fun post exc k => ne_1 hm (by decide) (ne_1 hw (by decide) ⟨m, rfl, hm, room_C hm (h.1 m hm) (fun _ => ⟨m, rfl, hm, ?_⟩) (fun n => absurd f n)⟩), fun post k => ix_M1 hm (by decide) ⟨fun e => absurd e (by decide), fun _ => ix_M1 hw (by decide) ⟨fun _ => ⟨m, rfl, hm, fun e => absurd e f.1, fun _ => ⟨m, rfl, hm, fun _ I5 e5 => ?_, fun n => absurd f.2 n⟩⟩, fun e => absurd e (by decide)⟩⟩⟩ (h0.mob hm (oM.beg m I _ _ _ _ _) (beg_mob (h0.1 m hm) (k := 3) (w := w) (r := r) (by decide) (by decide) (by omega) hr (fun e => by omega))) ?_
        · unfold p_Bk_ofData
          rw [su_2 (by omega)]
          have e2 : p_Bk_of (3 : Int32) (nI m) (nI (w / 4)) (nI w) p3 (fun r3 I1 J2 => p_Me_put m r3 (fun I6 J7 => post I6 J7) I1 J2) I J ↔ p_Bk_of (3 : Int32) (nI m) (nI (w / 4)) (nI w) (nI r) (fun r3 I1 J2 => p_Me_put m r3 (fun I6 J7 => post I6 J7) I1 J2) I J := by
            unfold p_Bk_of
            rw [er, and_n511 hr]
          refine e2.mpr (s_Bk_of (k := 3) (by decide) hm (by omega) (by omega) hr w3 ?_)
          rw [ew]
          exact s_Me_put k
        · subst e5
          refine ⟨fun n => absurd (xu_s A 0 0 0) n, fun _ => s_Md_begin hm ?_⟩
          rw [er]
          exact k
        · simp [mBeg, xu_at]
      · exact pr_1 (f := p_TC_send (nI m) (nI w) p3) (L := fun post i I J => (i = 1 ∧ post 1 I J) ∨ (i = 2 ∧ post 2 I J)) (k := 2) (c := 2) h ⟨fun post exc k => ne_1 hm (by decide) (ne_1 hw (by decide) ⟨m, rfl, hm, room_C hm (h.1 m hm) (fun e => absurd e f) (fun _ => k)⟩), fun post k => ix_M1 hm (by decide) ⟨fun e => absurd e (by decide), fun _ => ix_M1 hw (by decide) ⟨fun _ => ⟨m, rfl, hm, fun _ => bad 2 post (by decide) k, fun n => ⟨m, rfl, hm, fun e => absurd ⟨n, e⟩ f, fun _ => bad 2 post (by decide) k⟩⟩, fun e => absurd e (by decide)⟩⟩⟩ (fun post q => Or.inr ⟨rfl, q⟩)
theorem e_press (h : jInv I J A B) (p1 p2 p3 : Int32) : pr (p_Lw_press p1 p2 p3) (p_Md_press p1 p2 p3) I J A B := by
  have bad : ∀ (c : Int32) (post : SI → SJ → Prop), ¬ c = 0 → post (xu A 0 0 c) B → p_Md_press_54 p1 p2 p3 post c A B := by
    intro c post hc k I4 e4
    subst e4
    exact ⟨fun _ => k, fun e => absurd ((xu_s A 0 0 c).symm.trans e) hc⟩
  rcases ix_all p1 (n := 8) (by decide) with l | ⟨m, hm, rfl⟩
  · exact pr_1 (f := p_TC_press p1 p2 p3) (L := fun post i I J => (i = 1 ∧ post 1 I J) ∨ (i = 2 ∧ post 2 I J)) (k := 1) (c := 1) h ⟨fun post exc k => ne_0 l k, fun post k => ix_M0 l ⟨fun _ => bad 1 post (by decide) k, fun n => absurd rfl n⟩⟩ (fun post q => Or.inl ⟨rfl, q⟩)
  · rcases ix_all p2 (n := 4) (by decide) with l | ⟨g, hg, rfl⟩
    · exact pr_1 (f := p_TC_press (nI m) p2 p3) (L := fun post i I J => (i = 1 ∧ post 1 I J) ∨ (i = 2 ∧ post 2 I J)) (k := 1) (c := 1) h ⟨fun post exc k => ne_1 hm (by decide) (ne_0 l k), fun post k => ix_M1 hm (by decide) ⟨fun e => absurd e (by decide), fun _ => ix_M0 l ⟨fun n => absurd rfl n, fun _ => bad 1 post (by decide) k⟩⟩⟩ (fun post q => Or.inl ⟨rfl, q⟩)
    · have mob := h.1 m hm
      obtain ⟨pr1, pr2⟩ := mob.2.2.2.2.2.1
      have lt : A 16 m < 0 ↔ A 16 m = -1 := by
        rcases pr2 with e | ⟨c, hc, e⟩
        · rw [e]
          decide
        · rw [e]
          have : ∀ c, c < 4 → (nI c < 0 ↔ nI c = (-1 : Int32)) := by decide +kernel
          exact this c hc
      have pos : 0 < A 7 m ↔ ¬ A 7 m ≤ 0 := by
        rw [Int32.lt_iff_toInt_lt, Int32.le_iff_toInt_le]
        omega
      have bad2 : ∀ (post : SI → SJ → Prop), ¬ (free1 m A ∧ A 16 m < 0) → post (xu A 0 0 2) B → p_Md_press (nI m) (nI g) p3 post A B := fun post f k => ix_M1 hm (by decide) ⟨fun e => absurd e (by decide), fun _ => ix_M1 hg (by decide) ⟨fun _ => ⟨m, rfl, hm, fun _ => bad 2 post (by decide) k, fun n => ⟨m, rfl, hm, fun _ => bad 2 post (by decide) k, fun n2 => ⟨m, rfl, hm, fun e => absurd ⟨⟨n, Classical.byContradiction (fun x => n2 (pos.mpr x))⟩, e⟩ f, fun _ => bad 2 post (by decide) k⟩⟩⟩, fun e => absurd e (by decide)⟩⟩
      by_cases f : free1 m A
      · by_cases fp : A 16 m < 0
        · have h0 := thr_inv h 0
          obtain ⟨l, hl, el⟩ := and_3 p3
          have h1 := h0.mob hm (oM.one m 7 16 (by decide) I _ (nI g) (nI g)) (prs_mob (h0.1 m hm) (Or.inr ⟨g, hg, rfl⟩))
          have ev : ((4 : Int32) * nI g) + (p3 &&& (3 : Int32)) = nI (4 * g + l) := by rw [el, show (4 : Int32) * nI g = nI (4 * g) from pk_mul 4 g, nI_add]
          refine pr_0 (f := p_TC_press (nI m) (nI g) p3) (L := fun post i I J => (i = 1 ∧ post 1 I J) ∨ (i = 2 ∧ post 2 I J)) (I' := cPut (xu I (14 + m) 7 (nI g)) m (nI (blk 2 m (4 * g + l) 0))) (J' := J) (A' := mBeg (xu (xu A 0 0 0) 16 m (nI g)) m 2 (nI (4 * g + l)) 0) (B' := B) ⟨fun post exc k => ne_1 hm (by decide) (ne_1 hg (by decide) ⟨m, rfl, hm, room_C hm mob (fun _ => ⟨m, rfl, hm, fun _ => ⟨m, rfl, hm, fun I4 e4 => ⟨m, rfl, hm, ?_⟩⟩, fun n => absurd (pr1.trans (lt.mp fp)) n⟩) (fun n => absurd f n)⟩), fun post k => ix_M1 hm (by decide) ⟨fun e => absurd e (by decide), fun _ => ix_M1 hg (by decide) ⟨fun _ => ⟨m, rfl, hm, fun e => absurd e f.1, fun _ => ⟨m, rfl, hm, fun e => absurd f.2 (pos.mp e), fun _ => ⟨m, rfl, hm, fun _ I5 e5 => ?_, fun n => absurd fp n⟩⟩⟩, fun e => absurd e (by decide)⟩⟩⟩ (h1.mob hm (oM.beg m _ _ _ _ _ _) (beg_mob (h1.1 m hm) (k := 2) (w := 4 * g + l) (r := 0) (by decide) (by decide) (by omega) (by decide) (fun e => by omega))) ?_
          · subst e4
            exact s_Bk_of (k := 2) (r := 0) (by decide) hm hg hl (by decide) el (s_Me_put k)
          · subst e5
            refine ⟨fun n => absurd (xu_s A 0 0 0) n, fun _ => ⟨m, rfl, hm, fun I6 e6 => s_Md_begin hm ?_⟩⟩
            subst e6
            rw [ev]
            exact k
          · simp [mBeg, xu_at]
        · have n1 : ¬ I (14 + m) 7 = (-1 : Int32) := fun e => fp (lt.mpr (pr1.symm.trans e))
          exact pr_1 (f := p_TC_press (nI m) (nI g) p3) (L := fun post i I J => (i = 1 ∧ post 1 I J) ∨ (i = 2 ∧ post 2 I J)) (k := 2) (c := 2) h ⟨fun post exc k => ne_1 hm (by decide) (ne_1 hg (by decide) ⟨m, rfl, hm, room_C hm mob (fun _ => ⟨m, rfl, hm, fun e => absurd e n1, fun _ => k⟩) (fun n => absurd f n)⟩), fun post k => bad2 post (fun x => fp x.2) k⟩ (fun post q => Or.inr ⟨rfl, q⟩)
      · exact pr_1 (f := p_TC_press (nI m) (nI g) p3) (L := fun post i I J => (i = 1 ∧ post 1 I J) ∨ (i = 2 ∧ post 2 I J)) (k := 2) (c := 2) h ⟨fun post exc k => ne_1 hm (by decide) (ne_1 hg (by decide) ⟨m, rfl, hm, room_C hm mob (fun e => absurd e f) (fun _ => k)⟩), fun post k => bad2 post (fun x => f x.1) k⟩ (fun post q => Or.inr ⟨rfl, q⟩)
end E
